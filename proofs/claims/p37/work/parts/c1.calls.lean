/-! EVERY CALL OF THE CLASS, OVER THE LAW'S WORLD (printed by wip/p37/genc1.py) -/
theorem lp_ver {i N w : Nat} {M : s_M} (I : i_I i M N w) : ∀ x ∈ (g_E M).2.1, x.2.2.1 ≤ g_n M := by
  obtain ⟨W, S, R, V, Vs, a, s, b, p, C, D, X, Y, Np, I⟩ := I
  exact I.2.1.1.1.2.1
theorem lp_lo5 : s_lo (-5) 10000 = 120395000000 ∧ s_la (-5) 10000 + 1 = 120516000000 := by decide +kernel
theorem wk_at {M : s_M} {x : Int32} {y : k_K2} (h : (wk_list M x).head? = some y) : y ∈ (g_E M).1 ∧ y.1 / 121000000 = 995 := by
  have h1 := List.mem_of_mem_head? h
  obtain ⟨h2, h3⟩ := List.mem_filter.mp h1
  simp only [Bool.and_eq_true, decide_eq_true_eq] at h3
  have := lp_lo5
  exact ⟨h2, by omega⟩
theorem take_val {M : s_M} {x z : Int32} {y : k_K2} (hv : ∀ x ∈ (g_E M).2.1, x.2.2.1 ≤ g_n M) (h : (wk_list M z).head? = some y) : r_val y.1 (g_n M + 1) (wk_tE M x y.1).2.1 = rk_v M y.1 := by
  have hl := (wk_at h).2
  have l7 := (c75 y.1).1
  unfold wk_tE
  rw [put_val, if_neg (fun e => by
    have e1 : c7 y.1 = y.1 := e.1
    rw [e1] at l7
    omega), r_val_adv hv (Nat.le_succ _)]
  rfl
theorem fin_val {M : s_M} {x : Int32} {y : k_K2} (hK : ∀ x ∈ (g_E M).1, y_K x.1) (h : (wk_list M x).head? = some y) : s_cd (-5) (s_no y.1 1) 10000 = y.1 := by
  obtain ⟨h1, h2⟩ := wk_at h
  exact (hK y h1 h2).symm
theorem I_recover {i N w : Nat} {M : s_M} (I : i_I i M N w) : i_I (i + 1) (F_recover M).1 N w := I_adv I (k := 10) (g := g_gen M + 1) (by decide) (Nat.le_succ _) (Nat.le_refl _) (by omega)
theorem I_pass {i N w : Nat} {M : s_M} {x : Int32} (I : i_I i M N w) : i_I (i + 1) (F_pass M x).1 (N + 1) w := by
  rcases z_pass (M := M) (x := x) with e | ⟨k, hk, e⟩
  · rw [e]; exact I_0 I (by omega)
  · rw [e]; exact I_adv I hk (Nat.le_refl _) (Nat.le_succ _) (by omega)
theorem rdg_id {M : s_M} {t : Nat} : g_rdg M t (g_X M t).2.2 = M := by
  unfold g_rdg g_tx
  refine Prod.ext rfl (Prod.ext rfl (Prod.ext (funext fun q => ?_) rfl))
  show (if q = t then ((g_X M t).1, (g_X M t).2.1, (g_X M t).2.2) else g_X M q) = g_X M q
  split
  · rename_i h; rw [h]
  · rfl
theorem z_getF {M : s_M} {x a b c : Int32} : (F_get M x a b c false).1 = M := by
  unfold F_get
  repeat' split
  all_goals first | rfl | skip
  show g_rdg M (t_of x) (s_rdk false _ _ _ _) = M
  rw [show s_rdk false (g_X M (t_of x)).2.1 (g_X M (t_of x)).2.2 (s_cd a b c) (g_ser M) = (g_X M (t_of x)).2.2 from if_neg (fun z => by cases z.1)]
  exact rdg_id
theorem z_rangeF {M : s_M} {x a b : Int32} : (F_range M x a b false).1 = M := by
  unfold F_range
  repeat' split
  all_goals first | rfl | contradiction
/-- readings of transaction 3: they cost nothing as long as they are few -/
theorem I_rd3 {i N w : Nat} {M : s_M} (I : i_I i M N w) {r : List (Nat × Nat × Nat)} (hr : r.length ≤ 4 * i) : i_I i (g_rdg M 3 r) N w := by
  obtain ⟨W, S, R, V, Vs, a, s, b, p, C, D, X, Y, Np, ⟨⟨g1, g2, g3⟩, hS, gX, gC, gN, g4, g5, g6⟩⟩ := I
  refine ⟨W, S, R, V, Vs, a, s, b, p, C, D, X, Y, Np, ⟨⟨i1_tx g1 (g1.2.2.2.1 3 (by decide)), g2, g3⟩, ?_, ?_, ?_, ?_, g4, g5, g6⟩⟩
  · exact S_same hS (Nat.le_refl _) (fun _ h => h) (fun _ h => h) hS.2.2.1.2.2.1.2 (Nat.le_refl _) (Nat.le_refl _) rfl rfl rfl rfl hS.1.2 (fun x hx => Or.inl ⟨x.2, hx⟩) hS.2.2.2.2.1.1 rfl
  · refine iX_tx gX rfl ?_ (fun _ h => h) (fun _ h => h) (fun _ h => h) (Nat.le_refl _) (Nat.le_refl _)
    obtain ⟨a1, a2, a3⟩ := gX 3 (by decide)
    exact ⟨a1, hr, a3⟩
  · have z : z_C (g_rdg M 3 r) ≤ z_C M + 0 := zC_tx (by decide) (k := 0) (Nat.le_of_eq (zcr_hd rfl rfl))
    exact ⟨by have := gC.1; omega, by have := gC.2.1; omega, gC.2.2⟩
  · have z := z4_up (t := 3) (f := fun u => z_b (g_X M u).1.1) (g := fun u => z_b (g_X (g_rdg M 3 r) u).1.1) (by decide) (fun u hu => by show z_b (if u = 3 then _ else g_X M u).1.1 = _; rw [if_neg hu])
    have e : z_b (g_X (g_rdg M 3 r) 3).1.1 = z_b (g_X M 3).1.1 := by
      show z_b (if 3 = 3 then ((g_X M 3).1, (g_X M 3).2.1, r) else g_X M 3).1.1 = _
      rw [if_pos rfl]
    obtain ⟨n1, n2, n3, n4⟩ := gN
    refine ⟨n1, n2, ?_, n4⟩
    show D + (if g_los M = 0 then 0 else 1) + z_4 (fun t => z_b (g_X (g_rdg M 3 r) t).1.1) ≤ p
    omega
theorem lp_env {i N w : Nat} {M : s_M} (I : i_I i M N w) (hi : i < 512) : (e_lim (g_E M) ∧ g_nm M ∧ g_pk M ∧ g_p0 M ∧ g_ws M) ∧ (g_n M + 1 < 9000 ∧ g_n M + 10 ≤ 9000 ∧ g_gen M < 2 ^ 31 ∧ g_los M ≤ 2 ∧ w ≤ 13000 ∧ w ≤ 8000) ∧
    ((∀ t, t < 4 → (g_X M t).1.2.2.1 ≤ g_n M) ∧ (∀ t, t < 4 → (g_X M t).2.2.length < 2048) ∧ (∀ t, t < 4 → (g_X M t).2.1.length < 2 ^ 20) ∧ (∀ t, t < 4 → (g_X M t).1.2.2.1 ≤ g_n M ∧ (g_X M t).1.2.2.2.1 < 2 ^ 31 ∧ (g_X M t).1.2.2.2.2 ≤ g_n M ∧ (g_X M t).2.1.length < 2 ^ 20)) ∧
    ((∀ v ∈ g_MK M, v ≤ g_n M) ∧ (g_MK M).length ≤ 10 ∧ (g_WT M).length ≤ 20) ∧ (d_ok (g_DS M) ∧ d_many (g_DS M).1 ≤ 9 ∧ (g_DS M).2 < 1024 ∧ (d_many (g_DS M).1 < 9 → d_free (g_DS M).1 12 1 ≤ 9 ∧ d_fok (g_DS M).1)) ∧ ((g_PT M).length ≤ 4096 ∧ ∀ p ∈ g_PT M, p.1 < 1331000000000) ∧
    ((∀ j, j < 100 → ∀ v, r_val (sv_re (nI j)) (g_n M + 1) (g_E M).2.1 = some v → s_na v) ∧ (∀ {x : Int32}, s_inB x 0 2 = true → ∀ {v : Int32}, rk_v M (sv_co x) = some v → v = 1000 ∨ v = -1000 ∨ ∃ j, j < 100 ∧ v = nI j) ∧ (∀ x ∈ (g_E M).2.1, x.2.2.1 ≤ g_n M) ∧ ∀ x ∈ (g_E M).1, y_K x.1) := by
  obtain ⟨⟨lim, nmd, pk, p0, wk, ws⟩, ⟨un, ug, ul, us, uw⟩, ut, ⟨mkn, mkl, wtl⟩, ⟨dok, dm, d2, d10⟩, ⟨ptl, lows⟩, uk, Wl, Rl, lE, lK, KK⟩ := I_use I (by omega : i ≤ 512)
  have df := dfree_ok dm
  refine ⟨⟨lim, nmd, pk, p0, ws⟩, ⟨by omega, by omega, by omega, ul, by omega, by omega⟩, ⟨fun t ht => (ut t ht).1.1, fun t ht => by have := (ut t ht).2.2; omega, fun t ht => by have := (ut t ht).2.1; omega, fun t ht => ⟨(ut t ht).1.1, by have := (ut t ht).1.2.1; omega, (ut t ht).1.2.2, by have := (ut t ht).2.1; omega⟩⟩, ⟨mkn, mkl, wtl⟩, ⟨dok, dm, by omega, fun z => ⟨df.2.2 z, df.1⟩⟩, ⟨by omega, lows⟩, fun j hj v e => ?_, fun {x} h {v} e => ?_, lp_ver I, lK⟩
  · obtain ⟨q, h1, h2⟩ := re_rec lE hj e
    rw [h2]; exact na_100 (by have := h1.2.1; omega)
  · obtain ⟨y, hy, e1, -, e3⟩ := val_mem e
    have := lE y hy
    rw [e1, e3] at this
    obtain ⟨o1, o2, o3, o4, o5, o6⟩ := of_cl h
    exact (this v rfl).2.1 (by omega)
section CALLS
variable {G : k_G} {l : Launch} {a i q : Nat} {A : lp_A} {M : s_M} {H : k_H}

theorem lA_begin (ok : k_ok G l) (g0 : k_fh G = 0) {x : Int32} {once : Bool} (W : lp_W a A i q M H) (hi : i < 512) : k_ct (tX11_begin G l) [vR (some a), vI x, vI (kB once)] H (fun H' r => lp_W a A (i + 1) q (F_begin M x once).1 H' ∧ r = lp_r (F_begin M x once) (fun _ => x_IO)) := by
  obtain ⟨h, N, w, po, rfl, cn, hb, W, N0, I, hN⟩ := W
  have okF : k_ok (k_fG G (a + 31) (a + 36)) l := k_fG_ok ok
  obtain ⟨⟨lim, nmd, pk, p0, ws⟩, ⟨n9, n10, gen31, ul, w13, w8⟩, ⟨hra, rd, hl9, hx⟩, ⟨mkn, mkl, wtl⟩, ⟨dok, dm, d2, df⟩, ⟨ptl, lows⟩, hrec, hst, ver, lK⟩ := lp_env I hi
  exact lp_call (M := M) (N := N) (w := w) (i := i) (q := q) g0 cn hb (c_begin okF W) ⟨_, I_begin I, by omega⟩
theorem y_begin {M : s_M} {x : Int32} {once : Bool} (h : ¬ (F_begin M x once).2.1 = 0) : (F_begin M x once).1 = M := by
  revert h
  unfold F_begin
  repeat' split
  all_goals first | exact fun _ => rfl | exact fun h => absurd rfl h
theorem lA_begin_r (ok : k_ok G l) (g0 : k_fh G = 0) {x : Int32} {once : Bool} (W : lp_W a A i q M H) (hi : i < 512) (hr : ¬ (F_begin M x once).2.1 = 0) : k_ct (tX11_begin G l) [vR (some a), vI x, vI (kB once)] H (fun H' r => lp_W a A i (q + 2) M H' ∧ r = lp_r (F_begin M x once) (fun _ => x_IO)) := by
  obtain ⟨h, N, w, po, rfl, cn, hb, W, N0, I, hN⟩ := W
  have okF : k_ok (k_fG G (a + 31) (a + 36)) l := k_fG_ok ok
  obtain ⟨⟨lim, nmd, pk, p0, ws⟩, ⟨n9, n10, gen31, ul, w13, w8⟩, ⟨hra, rd, hl9, hx⟩, ⟨mkn, mkl, wtl⟩, ⟨dok, dm, d2, df⟩, ⟨ptl, lows⟩, hrec, hst, ver, lK⟩ := lp_env I hi
  have e := y_begin hr
  have c := lp_call (A := A) (M := M) (N := N) (w := w) (i := i) (q := q) (i' := i) (q' := q + 2) g0 cn hb (c_begin okF W) ⟨N0, by rw [e]; exact I, by omega⟩
  rw [e] at c
  exact c
theorem lA_get (ok : k_ok G l) (g0 : k_fh G = 0) {x : Int32} {a1 : Int32} {b1 : Int32} {c1 : Int32} {counts : Bool} (W : lp_W a A i q M H) (hi : i < 512) : k_ct (tX11_get G l) [vR (some a), vI x, vI a1, vI b1, vI c1, vI (kB counts)] H (fun H' r => lp_W a A (i + 1) q (F_get M x a1 b1 c1 counts).1 H' ∧ r = lp_r (F_get M x a1 b1 c1 counts) x_3) := by
  obtain ⟨h, N, w, po, rfl, cn, hb, W, N0, I, hN⟩ := W
  have okF : k_ok (k_fG G (a + 31) (a + 36)) l := k_fG_ok ok
  obtain ⟨⟨lim, nmd, pk, p0, ws⟩, ⟨n9, n10, gen31, ul, w13, w8⟩, ⟨hra, rd, hl9, hx⟩, ⟨mkn, mkl, wtl⟩, ⟨dok, dm, d2, df⟩, ⟨ptl, lows⟩, hrec, hst, ver, lK⟩ := lp_env I hi
  exact lp_call (M := M) (N := N) (w := w) (i := i) (q := q) g0 cn hb (C_get okF W hra rd) ⟨_, I_rd I z_get (N' := N0 + 1) (by omega), by omega⟩
theorem y_get {M : s_M} {x : Int32} {a1 : Int32} {b1 : Int32} {c1 : Int32} {counts : Bool} (h : ¬ (F_get M x a1 b1 c1 counts).2.1 = 0) : (F_get M x a1 b1 c1 counts).1 = M := by
  revert h
  unfold F_get
  repeat' split
  all_goals first | exact fun _ => rfl | exact fun h => absurd rfl h
theorem lA_get_r (ok : k_ok G l) (g0 : k_fh G = 0) {x : Int32} {a1 : Int32} {b1 : Int32} {c1 : Int32} {counts : Bool} (W : lp_W a A i q M H) (hi : i < 512) (hr : ¬ (F_get M x a1 b1 c1 counts).2.1 = 0) : k_ct (tX11_get G l) [vR (some a), vI x, vI a1, vI b1, vI c1, vI (kB counts)] H (fun H' r => lp_W a A i (q + 2) M H' ∧ r = lp_r (F_get M x a1 b1 c1 counts) x_3) := by
  obtain ⟨h, N, w, po, rfl, cn, hb, W, N0, I, hN⟩ := W
  have okF : k_ok (k_fG G (a + 31) (a + 36)) l := k_fG_ok ok
  obtain ⟨⟨lim, nmd, pk, p0, ws⟩, ⟨n9, n10, gen31, ul, w13, w8⟩, ⟨hra, rd, hl9, hx⟩, ⟨mkn, mkl, wtl⟩, ⟨dok, dm, d2, df⟩, ⟨ptl, lows⟩, hrec, hst, ver, lK⟩ := lp_env I hi
  have e := y_get hr
  have c := lp_call (A := A) (M := M) (N := N) (w := w) (i := i) (q := q) (i' := i) (q' := q + 2) g0 cn hb (C_get okF W hra rd) ⟨N0, by rw [e]; exact I, by omega⟩
  rw [e] at c
  exact c
theorem lA_range (ok : k_ok G l) (g0 : k_fh G = 0) {x : Int32} {a1 : Int32} {b1 : Int32} {counts : Bool} (W : lp_W a A i q M H) (hi : i < 512) : k_ct (tX11_range G l) [vR (some a), vI x, vI a1, vI b1, vI (kB counts)] H (fun H' r => lp_W a A (i + 1) q (F_range M x a1 b1 counts).1 H' ∧ r = lp_r (F_range M x a1 b1 counts) x_3) := by
  obtain ⟨h, N, w, po, rfl, cn, hb, W, N0, I, hN⟩ := W
  have okF : k_ok (k_fG G (a + 31) (a + 36)) l := k_fG_ok ok
  obtain ⟨⟨lim, nmd, pk, p0, ws⟩, ⟨n9, n10, gen31, ul, w13, w8⟩, ⟨hra, rd, hl9, hx⟩, ⟨mkn, mkl, wtl⟩, ⟨dok, dm, d2, df⟩, ⟨ptl, lows⟩, hrec, hst, ver, lK⟩ := lp_env I hi
  exact lp_call (M := M) (N := N) (w := w) (i := i) (q := q) g0 cn hb (C_range okF W lim nmd hra rd) ⟨_, I_rd I z_range (N' := N0 + 1) (by omega), by omega⟩
theorem y_range {M : s_M} {x : Int32} {a1 : Int32} {b1 : Int32} {counts : Bool} (h : ¬ (F_range M x a1 b1 counts).2.1 = 0) : (F_range M x a1 b1 counts).1 = M := by
  revert h
  unfold F_range
  repeat' split
  all_goals first | exact fun _ => rfl | exact fun h => absurd rfl h
theorem lA_range_r (ok : k_ok G l) (g0 : k_fh G = 0) {x : Int32} {a1 : Int32} {b1 : Int32} {counts : Bool} (W : lp_W a A i q M H) (hi : i < 512) (hr : ¬ (F_range M x a1 b1 counts).2.1 = 0) : k_ct (tX11_range G l) [vR (some a), vI x, vI a1, vI b1, vI (kB counts)] H (fun H' r => lp_W a A i (q + 2) M H' ∧ r = lp_r (F_range M x a1 b1 counts) x_3) := by
  obtain ⟨h, N, w, po, rfl, cn, hb, W, N0, I, hN⟩ := W
  have okF : k_ok (k_fG G (a + 31) (a + 36)) l := k_fG_ok ok
  obtain ⟨⟨lim, nmd, pk, p0, ws⟩, ⟨n9, n10, gen31, ul, w13, w8⟩, ⟨hra, rd, hl9, hx⟩, ⟨mkn, mkl, wtl⟩, ⟨dok, dm, d2, df⟩, ⟨ptl, lows⟩, hrec, hst, ver, lK⟩ := lp_env I hi
  have e := y_range hr
  have c := lp_call (A := A) (M := M) (N := N) (w := w) (i := i) (q := q) (i' := i) (q' := q + 2) g0 cn hb (C_range okF W lim nmd hra rd) ⟨N0, by rw [e]; exact I, by omega⟩
  rw [e] at c
  exact c
theorem lA_rangeAt (ok : k_ok G l) (g0 : k_fh G = 0) {x : Int32} {a1 : Int32} {b1 : Int32} {p1 : Int32} {w1 : Int32} (W : lp_W a A i q M H) (hi : i < 512) : k_ct (tX11_rangeAt G l) [vR (some a), vI x, vI a1, vI b1, vI p1, vI w1] H (fun H' r => lp_W a A (i + 1) q (F_rangeAt M x a1 b1 p1 w1).1 H' ∧ r = lp_r (F_rangeAt M x a1 b1 p1 w1) x_3) := by
  obtain ⟨h, N, w, po, rfl, cn, hb, W, N0, I, hN⟩ := W
  have okF : k_ok (k_fG G (a + 31) (a + 36)) l := k_fG_ok ok
  obtain ⟨⟨lim, nmd, pk, p0, ws⟩, ⟨n9, n10, gen31, ul, w13, w8⟩, ⟨hra, rd, hl9, hx⟩, ⟨mkn, mkl, wtl⟩, ⟨dok, dm, d2, df⟩, ⟨ptl, lows⟩, hrec, hst, ver, lK⟩ := lp_env I hi
  exact lp_call (M := M) (N := N) (w := w) (i := i) (q := q) g0 cn hb (C_rangeAt okF W lim nmd hra rd) ⟨_, I_rd I z_rangeAt (N' := N0 + 1) (by omega), by omega⟩
theorem y_rangeAt {M : s_M} {x : Int32} {a1 : Int32} {b1 : Int32} {p1 : Int32} {w1 : Int32} (h : ¬ (F_rangeAt M x a1 b1 p1 w1).2.1 = 0) : (F_rangeAt M x a1 b1 p1 w1).1 = M := by
  revert h
  unfold F_rangeAt
  repeat' split
  all_goals first | exact fun _ => rfl | exact fun h => absurd rfl h
theorem lA_rangeAt_r (ok : k_ok G l) (g0 : k_fh G = 0) {x : Int32} {a1 : Int32} {b1 : Int32} {p1 : Int32} {w1 : Int32} (W : lp_W a A i q M H) (hi : i < 512) (hr : ¬ (F_rangeAt M x a1 b1 p1 w1).2.1 = 0) : k_ct (tX11_rangeAt G l) [vR (some a), vI x, vI a1, vI b1, vI p1, vI w1] H (fun H' r => lp_W a A i (q + 2) M H' ∧ r = lp_r (F_rangeAt M x a1 b1 p1 w1) x_3) := by
  obtain ⟨h, N, w, po, rfl, cn, hb, W, N0, I, hN⟩ := W
  have okF : k_ok (k_fG G (a + 31) (a + 36)) l := k_fG_ok ok
  obtain ⟨⟨lim, nmd, pk, p0, ws⟩, ⟨n9, n10, gen31, ul, w13, w8⟩, ⟨hra, rd, hl9, hx⟩, ⟨mkn, mkl, wtl⟩, ⟨dok, dm, d2, df⟩, ⟨ptl, lows⟩, hrec, hst, ver, lK⟩ := lp_env I hi
  have e := y_rangeAt hr
  have c := lp_call (A := A) (M := M) (N := N) (w := w) (i := i) (q := q) (i' := i) (q' := q + 2) g0 cn hb (C_rangeAt okF W lim nmd hra rd) ⟨N0, by rw [e]; exact I, by omega⟩
  rw [e] at c
  exact c
theorem lA_change (ok : k_ok G l) (g0 : k_fh G = 0) {x : Int32} {k : Int32} {a1 : Int32} {b1 : Int32} {c1 : Int32} {v : Int32} (W : lp_W a A i q M H) (hi : i < 512) : k_ct (tX11_change G l) [vR (some a), vI x, vI k, vI a1, vI b1, vI c1, vI v] H (fun H' r => lp_W a A (i + 1) q (F_change M x k a1 b1 c1 v).1 H' ∧ r = lp_r (F_change M x k a1 b1 c1 v) x_3) := by
  obtain ⟨h, N, w, po, rfl, cn, hb, W, N0, I, hN⟩ := W
  have okF : k_ok (k_fG G (a + 31) (a + 36)) l := k_fG_ok ok
  obtain ⟨⟨lim, nmd, pk, p0, ws⟩, ⟨n9, n10, gen31, ul, w13, w8⟩, ⟨hra, rd, hl9, hx⟩, ⟨mkn, mkl, wtl⟩, ⟨dok, dm, d2, df⟩, ⟨ptl, lows⟩, hrec, hst, ver, lK⟩ := lp_env I hi
  exact lp_call (M := M) (N := N) (w := w) (i := i) (q := q) g0 cn hb (C_change okF W lim w13 hl9) ⟨_, I_kp I z_change (N' := N0 + 1) (by omega), by omega⟩
theorem y_change {M : s_M} {x : Int32} {k : Int32} {a1 : Int32} {b1 : Int32} {c1 : Int32} {v : Int32} (h : ¬ (F_change M x k a1 b1 c1 v).2.1 = 0) : (F_change M x k a1 b1 c1 v).1 = M := by
  revert h
  unfold F_change
  repeat' split
  all_goals first | exact fun _ => rfl | exact fun h => absurd rfl h
theorem lA_change_r (ok : k_ok G l) (g0 : k_fh G = 0) {x : Int32} {k : Int32} {a1 : Int32} {b1 : Int32} {c1 : Int32} {v : Int32} (W : lp_W a A i q M H) (hi : i < 512) (hr : ¬ (F_change M x k a1 b1 c1 v).2.1 = 0) : k_ct (tX11_change G l) [vR (some a), vI x, vI k, vI a1, vI b1, vI c1, vI v] H (fun H' r => lp_W a A i (q + 2) M H' ∧ r = lp_r (F_change M x k a1 b1 c1 v) x_3) := by
  obtain ⟨h, N, w, po, rfl, cn, hb, W, N0, I, hN⟩ := W
  have okF : k_ok (k_fG G (a + 31) (a + 36)) l := k_fG_ok ok
  obtain ⟨⟨lim, nmd, pk, p0, ws⟩, ⟨n9, n10, gen31, ul, w13, w8⟩, ⟨hra, rd, hl9, hx⟩, ⟨mkn, mkl, wtl⟩, ⟨dok, dm, d2, df⟩, ⟨ptl, lows⟩, hrec, hst, ver, lK⟩ := lp_env I hi
  have e := y_change hr
  have c := lp_call (A := A) (M := M) (N := N) (w := w) (i := i) (q := q) (i' := i) (q' := q + 2) g0 cn hb (C_change okF W lim w13 hl9) ⟨N0, by rw [e]; exact I, by omega⟩
  rw [e] at c
  exact c
theorem lA_clear (ok : k_ok G l) (g0 : k_fh G = 0) {x : Int32} {a1 : Int32} {b1 : Int32} (W : lp_W a A i q M H) (hi : i < 512) : k_ct (tX11_clear G l) [vR (some a), vI x, vI a1, vI b1] H (fun H' r => lp_W a A (i + 1) q (F_clear M x a1 b1).1 H' ∧ r = lp_r (F_clear M x a1 b1) x_3) := by
  obtain ⟨h, N, w, po, rfl, cn, hb, W, N0, I, hN⟩ := W
  have okF : k_ok (k_fG G (a + 31) (a + 36)) l := k_fG_ok ok
  obtain ⟨⟨lim, nmd, pk, p0, ws⟩, ⟨n9, n10, gen31, ul, w13, w8⟩, ⟨hra, rd, hl9, hx⟩, ⟨mkn, mkl, wtl⟩, ⟨dok, dm, d2, df⟩, ⟨ptl, lows⟩, hrec, hst, ver, lK⟩ := lp_env I hi
  exact lp_call (M := M) (N := N) (w := w) (i := i) (q := q) g0 cn hb (C_clear okF W w13 hl9) ⟨_, I_kp I z_clear (N' := N0 + 1) (by omega), by omega⟩
theorem y_clear {M : s_M} {x : Int32} {a1 : Int32} {b1 : Int32} (h : ¬ (F_clear M x a1 b1).2.1 = 0) : (F_clear M x a1 b1).1 = M := by
  revert h
  unfold F_clear
  repeat' split
  all_goals first | exact fun _ => rfl | exact fun h => absurd rfl h
theorem lA_clear_r (ok : k_ok G l) (g0 : k_fh G = 0) {x : Int32} {a1 : Int32} {b1 : Int32} (W : lp_W a A i q M H) (hi : i < 512) (hr : ¬ (F_clear M x a1 b1).2.1 = 0) : k_ct (tX11_clear G l) [vR (some a), vI x, vI a1, vI b1] H (fun H' r => lp_W a A i (q + 2) M H' ∧ r = lp_r (F_clear M x a1 b1) x_3) := by
  obtain ⟨h, N, w, po, rfl, cn, hb, W, N0, I, hN⟩ := W
  have okF : k_ok (k_fG G (a + 31) (a + 36)) l := k_fG_ok ok
  obtain ⟨⟨lim, nmd, pk, p0, ws⟩, ⟨n9, n10, gen31, ul, w13, w8⟩, ⟨hra, rd, hl9, hx⟩, ⟨mkn, mkl, wtl⟩, ⟨dok, dm, d2, df⟩, ⟨ptl, lows⟩, hrec, hst, ver, lK⟩ := lp_env I hi
  have e := y_clear hr
  have c := lp_call (A := A) (M := M) (N := N) (w := w) (i := i) (q := q) (i' := i) (q' := q + 2) g0 cn hb (C_clear okF W w13 hl9) ⟨N0, by rw [e]; exact I, by omega⟩
  rw [e] at c
  exact c
theorem lA_commit (ok : k_ok G l) (g0 : k_fh G = 0) {x : Int32} (W : lp_W a A i q M H) (hi : i < 512) : k_ct (tX11_commit G l) [vR (some a), vI x] H (fun H' r => lp_W a A (i + 1) q (F_commit M x).1 H' ∧ r = lp_r (F_commit M x) x_I) := by
  obtain ⟨h, N, w, po, rfl, cn, hb, W, N0, I, hN⟩ := W
  have okF : k_ok (k_fG G (a + 31) (a + 36)) l := k_fG_ok ok
  obtain ⟨⟨lim, nmd, pk, p0, ws⟩, ⟨n9, n10, gen31, ul, w13, w8⟩, ⟨hra, rd, hl9, hx⟩, ⟨mkn, mkl, wtl⟩, ⟨dok, dm, d2, df⟩, ⟨ptl, lows⟩, hrec, hst, ver, lK⟩ := lp_env I hi
  obtain ⟨k, ck, cI⟩ := I_commit (x := x) I hi
  exact lp_call (M := M) (N := N) (w := w) (i := i) (q := q) g0 cn hb (C_commit1 okF W n9 gen31 ul hx lim ws pk p0 (fun h1 h2 h3 => cm_lim I hi (z_t4 h1) h2 h3) ck) ⟨_, cI, by omega⟩
theorem lA_why (ok : k_ok G l) (g0 : k_fh G = 0) (W : lp_W a A i q M H) (hi : i < 512) : k_ct (tX11_why G l) [vR (some a)] H (fun H' r => lp_W a A i (q + 1) M H' ∧ r = lp_r (F_why M) x_3) := by
  obtain ⟨h, N, w, po, rfl, cn, hb, W, N0, I, hN⟩ := W
  have okF : k_ok (k_fG G (a + 31) (a + 36)) l := k_fG_ok ok
  obtain ⟨⟨lim, nmd, pk, p0, ws⟩, ⟨n9, n10, gen31, ul, w13, w8⟩, ⟨hra, rd, hl9, hx⟩, ⟨mkn, mkl, wtl⟩, ⟨dok, dm, d2, df⟩, ⟨ptl, lows⟩, hrec, hst, ver, lK⟩ := lp_env I hi
  have c := lp_call (A := A) (M := M) (N := N) (w := w) (i := i) (q := q) (i' := i) (q' := q + 1) g0 cn hb (C_why okF W) ⟨N0, by rw [show (F_why M).1 = M from rfl]; exact I, by omega⟩
  rw [show (F_why M).1 = M from rfl] at c
  exact c
theorem lA_lose (ok : k_ok G l) (g0 : k_fh G = 0) {d : Bool} (W : lp_W a A i q M H) (hi : i < 512) : k_ct (tX11_lose G l) [vR (some a), vI (kB d)] H (fun H' r => lp_W a A (i + 1) q (F_lose M d).1 H' ∧ r = lp_rv (F_lose M d) x_3) := by
  obtain ⟨h, N, w, po, rfl, cn, hb, W, N0, I, hN⟩ := W
  have okF : k_ok (k_fG G (a + 31) (a + 36)) l := k_fG_ok ok
  obtain ⟨⟨lim, nmd, pk, p0, ws⟩, ⟨n9, n10, gen31, ul, w13, w8⟩, ⟨hra, rd, hl9, hx⟩, ⟨mkn, mkl, wtl⟩, ⟨dok, dm, d2, df⟩, ⟨ptl, lows⟩, hrec, hst, ver, lK⟩ := lp_env I hi
  exact lp_callv (M := M) (N := N) (w := w) (i := i) (q := q) g0 cn hb (C_lose okF W) ⟨_, I_lose I, by omega⟩
theorem lA_recover (ok : k_ok G l) (g0 : k_fh G = 0) (W : lp_W a A i q M H) (hi : i < 512) : k_ct (tX11_recover G l) [vR (some a)] H (fun H' r => lp_W a A (i + 1) q (F_recover M).1 H' ∧ r = lp_r (F_recover M) x_3) := by
  obtain ⟨h, N, w, po, rfl, cn, hb, W, N0, I, hN⟩ := W
  have okF : k_ok (k_fG G (a + 31) (a + 36)) l := k_fG_ok ok
  obtain ⟨⟨lim, nmd, pk, p0, ws⟩, ⟨n9, n10, gen31, ul, w13, w8⟩, ⟨hra, rd, hl9, hx⟩, ⟨mkn, mkl, wtl⟩, ⟨dok, dm, d2, df⟩, ⟨ptl, lows⟩, hrec, hst, ver, lK⟩ := lp_env I hi
  exact lp_call (M := M) (N := N) (w := w) (i := i) (q := q) g0 cn hb (C_recover okF W n10) ⟨_, I_recover I, by omega⟩
theorem lA_pass (ok : k_ok G l) (g0 : k_fh G = 0) {x : Int32} (W : lp_W a A i q M H) (hi : i < 512) : k_ct (tX11_pass G l) [vR (some a), vI x] H (fun H' r => lp_W a A (i + 1) q (F_pass M x).1 H' ∧ r = lp_r (F_pass M x) x_A) := by
  obtain ⟨h, N, w, po, rfl, cn, hb, W, N0, I, hN⟩ := W
  have okF : k_ok (k_fG G (a + 31) (a + 36)) l := k_fG_ok ok
  obtain ⟨⟨lim, nmd, pk, p0, ws⟩, ⟨n9, n10, gen31, ul, w13, w8⟩, ⟨hra, rd, hl9, hx⟩, ⟨mkn, mkl, wtl⟩, ⟨dok, dm, d2, df⟩, ⟨ptl, lows⟩, hrec, hst, ver, lK⟩ := lp_env I hi
  exact lp_call (M := M) (N := N) (w := w) (i := i) (q := q) g0 cn hb (C_pass okF W n10) ⟨_, I_pass I, by omega⟩
theorem y_pass {M : s_M} {x : Int32} (h : ¬ (F_pass M x).2.1 = 0) : (F_pass M x).1 = M := by
  revert h
  unfold F_pass
  repeat' split
  all_goals first | exact fun _ => rfl | exact fun h => absurd rfl h
theorem lA_pass_r (ok : k_ok G l) (g0 : k_fh G = 0) {x : Int32} (W : lp_W a A i q M H) (hi : i < 512) (hr : ¬ (F_pass M x).2.1 = 0) : k_ct (tX11_pass G l) [vR (some a), vI x] H (fun H' r => lp_W a A i (q + 2) M H' ∧ r = lp_r (F_pass M x) x_A) := by
  obtain ⟨h, N, w, po, rfl, cn, hb, W, N0, I, hN⟩ := W
  have okF : k_ok (k_fG G (a + 31) (a + 36)) l := k_fG_ok ok
  obtain ⟨⟨lim, nmd, pk, p0, ws⟩, ⟨n9, n10, gen31, ul, w13, w8⟩, ⟨hra, rd, hl9, hx⟩, ⟨mkn, mkl, wtl⟩, ⟨dok, dm, d2, df⟩, ⟨ptl, lows⟩, hrec, hst, ver, lK⟩ := lp_env I hi
  have e := y_pass hr
  have c := lp_call (A := A) (M := M) (N := N) (w := w) (i := i) (q := q) (i' := i) (q' := q + 2) g0 cn hb (C_pass okF W n10) ⟨N0, by rw [e]; exact I, by omega⟩
  rw [e] at c
  exact c
theorem lA_value (ok : k_ok G l) (g0 : k_fh G = 0) {v : Int32} {a1 : Int32} {b1 : Int32} {e1 : Int32} (W : lp_W a A i q M H) (hi : i < 512) : k_ct (tX11_value G l) [vR (some a), vI v, vI a1, vI b1, vI e1] H (fun H' r => lp_W a A i (q + 1) M H' ∧ r = lp_r (F_value M v a1 b1 e1) x_A) := by
  obtain ⟨h, N, w, po, rfl, cn, hb, W, N0, I, hN⟩ := W
  have okF : k_ok (k_fG G (a + 31) (a + 36)) l := k_fG_ok ok
  obtain ⟨⟨lim, nmd, pk, p0, ws⟩, ⟨n9, n10, gen31, ul, w13, w8⟩, ⟨hra, rd, hl9, hx⟩, ⟨mkn, mkl, wtl⟩, ⟨dok, dm, d2, df⟩, ⟨ptl, lows⟩, hrec, hst, ver, lK⟩ := lp_env I hi
  have c := lp_call (A := A) (M := M) (N := N) (w := w) (i := i) (q := q) (i' := i) (q' := q + 1) g0 cn hb (C_value okF W) ⟨N0, by rw [show (F_value M v a1 b1 e1).1 = M from z_value]; exact I, by omega⟩
  rw [show (F_value M v a1 b1 e1).1 = M from z_value] at c
  exact c
theorem lA_packed (ok : k_ok G l) (g0 : k_fh G = 0) {a1 : Int32} {b1 : Int32} {c1 : Int32} {p1 : Int32} (W : lp_W a A i q M H) (hi : i < 512) : k_ct (tX11_packed G l) [vR (some a), vI a1, vI b1, vI c1, vI p1] H (fun H' r => lp_W a A i (q + 1) M H' ∧ r = lp_r (F_packed M a1 b1 c1 p1) x_3) := by
  obtain ⟨h, N, w, po, rfl, cn, hb, W, N0, I, hN⟩ := W
  have okF : k_ok (k_fG G (a + 31) (a + 36)) l := k_fG_ok ok
  obtain ⟨⟨lim, nmd, pk, p0, ws⟩, ⟨n9, n10, gen31, ul, w13, w8⟩, ⟨hra, rd, hl9, hx⟩, ⟨mkn, mkl, wtl⟩, ⟨dok, dm, d2, df⟩, ⟨ptl, lows⟩, hrec, hst, ver, lK⟩ := lp_env I hi
  have c := lp_call (A := A) (M := M) (N := N) (w := w) (i := i) (q := q) (i' := i) (q' := q + 1) g0 cn hb (C_packed okF W) ⟨N0, by rw [show (F_packed M a1 b1 c1 p1).1 = M from z_packed]; exact I, by omega⟩
  rw [show (F_packed M a1 b1 c1 p1).1 = M from z_packed] at c
  exact c
theorem lA_version (ok : k_ok G l) (g0 : k_fh G = 0) (W : lp_W a A i q M H) (hi : i < 512) : k_ct (tX11_version G l) [vR (some a)] H (fun H' r => lp_W a A i (q + 1) M H' ∧ r = lp_r (F_version M) x_3) := by
  obtain ⟨h, N, w, po, rfl, cn, hb, W, N0, I, hN⟩ := W
  have okF : k_ok (k_fG G (a + 31) (a + 36)) l := k_fG_ok ok
  obtain ⟨⟨lim, nmd, pk, p0, ws⟩, ⟨n9, n10, gen31, ul, w13, w8⟩, ⟨hra, rd, hl9, hx⟩, ⟨mkn, mkl, wtl⟩, ⟨dok, dm, d2, df⟩, ⟨ptl, lows⟩, hrec, hst, ver, lK⟩ := lp_env I hi
  have c := lp_call (A := A) (M := M) (N := N) (w := w) (i := i) (q := q) (i' := i) (q' := q + 1) g0 cn hb (C_version okF W) ⟨N0, by rw [show (F_version M).1 = M from rfl]; exact I, by omega⟩
  rw [show (F_version M).1 = M from rfl] at c
  exact c
theorem lA_directory (ok : k_ok G l) (g0 : k_fh G = 0) {x : Int32} {nm : Int32} (W : lp_W a A i q M H) (hi : i < 512) : k_ct (tX11_directory G l) [vR (some a), vI x, vI nm] H (fun H' r => lp_W a A (i + 1) q (F_directory M x nm).1 H' ∧ r = lp_r (F_directory M x nm) x_3) := by
  obtain ⟨h, N, w, po, rfl, cn, hb, W, N0, I, hN⟩ := W
  have okF : k_ok (k_fG G (a + 31) (a + 36)) l := k_fG_ok ok
  obtain ⟨⟨lim, nmd, pk, p0, ws⟩, ⟨n9, n10, gen31, ul, w13, w8⟩, ⟨hra, rd, hl9, hx⟩, ⟨mkn, mkl, wtl⟩, ⟨dok, dm, d2, df⟩, ⟨ptl, lows⟩, hrec, hst, ver, lK⟩ := lp_env I hi
  exact lp_call (M := M) (N := N) (w := w) (i := i) (q := q) g0 cn hb (C_directory okF W dok d2 dm df) ⟨_, I_directory I hi, by omega⟩
theorem y_directory {M : s_M} {x : Int32} {nm : Int32} (h : ¬ (F_directory M x nm).2.1 = 0) : (F_directory M x nm).1 = M := by
  revert h
  unfold F_directory
  repeat' split
  all_goals first | exact fun _ => rfl | exact fun h => absurd rfl h
theorem lA_directory_r (ok : k_ok G l) (g0 : k_fh G = 0) {x : Int32} {nm : Int32} (W : lp_W a A i q M H) (hi : i < 512) (hr : ¬ (F_directory M x nm).2.1 = 0) : k_ct (tX11_directory G l) [vR (some a), vI x, vI nm] H (fun H' r => lp_W a A i (q + 2) M H' ∧ r = lp_r (F_directory M x nm) x_3) := by
  obtain ⟨h, N, w, po, rfl, cn, hb, W, N0, I, hN⟩ := W
  have okF : k_ok (k_fG G (a + 31) (a + 36)) l := k_fG_ok ok
  obtain ⟨⟨lim, nmd, pk, p0, ws⟩, ⟨n9, n10, gen31, ul, w13, w8⟩, ⟨hra, rd, hl9, hx⟩, ⟨mkn, mkl, wtl⟩, ⟨dok, dm, d2, df⟩, ⟨ptl, lows⟩, hrec, hst, ver, lK⟩ := lp_env I hi
  have e := y_directory hr
  have c := lp_call (A := A) (M := M) (N := N) (w := w) (i := i) (q := q) (i' := i) (q' := q + 2) g0 cn hb (C_directory okF W dok d2 dm df) ⟨N0, by rw [e]; exact I, by omega⟩
  rw [e] at c
  exact c
theorem lA_move (ok : k_ok G l) (g0 : k_fh G = 0) {x : Int32} {y : Int32} {nm : Int32} (W : lp_W a A i q M H) (hi : i < 512) : k_ct (tX11_move G l) [vR (some a), vI x, vI y, vI nm] H (fun H' r => lp_W a A (i + 1) q (F_move M x y nm).1 H' ∧ r = lp_rv (F_move M x y nm) x_3) := by
  obtain ⟨h, N, w, po, rfl, cn, hb, W, N0, I, hN⟩ := W
  have okF : k_ok (k_fG G (a + 31) (a + 36)) l := k_fG_ok ok
  obtain ⟨⟨lim, nmd, pk, p0, ws⟩, ⟨n9, n10, gen31, ul, w13, w8⟩, ⟨hra, rd, hl9, hx⟩, ⟨mkn, mkl, wtl⟩, ⟨dok, dm, d2, df⟩, ⟨ptl, lows⟩, hrec, hst, ver, lK⟩ := lp_env I hi
  exact lp_callv (M := M) (N := N) (w := w) (i := i) (q := q) g0 cn hb (C_move okF W dok) ⟨_, I_move I, by omega⟩
theorem y_move {M : s_M} {x : Int32} {y : Int32} {nm : Int32} (h : ¬ (F_move M x y nm).2.1 = 0) : (F_move M x y nm).1 = M := by
  revert h
  unfold F_move
  repeat' split
  all_goals first | exact fun _ => rfl | exact fun h => absurd rfl h
theorem lA_move_r (ok : k_ok G l) (g0 : k_fh G = 0) {x : Int32} {y : Int32} {nm : Int32} (W : lp_W a A i q M H) (hi : i < 512) (hr : ¬ (F_move M x y nm).2.1 = 0) : k_ct (tX11_move G l) [vR (some a), vI x, vI y, vI nm] H (fun H' r => lp_W a A i (q + 2) M H' ∧ r = lp_rv (F_move M x y nm) x_3) := by
  obtain ⟨h, N, w, po, rfl, cn, hb, W, N0, I, hN⟩ := W
  have okF : k_ok (k_fG G (a + 31) (a + 36)) l := k_fG_ok ok
  obtain ⟨⟨lim, nmd, pk, p0, ws⟩, ⟨n9, n10, gen31, ul, w13, w8⟩, ⟨hra, rd, hl9, hx⟩, ⟨mkn, mkl, wtl⟩, ⟨dok, dm, d2, df⟩, ⟨ptl, lows⟩, hrec, hst, ver, lK⟩ := lp_env I hi
  have e := y_move hr
  have c := lp_callv (A := A) (M := M) (N := N) (w := w) (i := i) (q := q) (i' := i) (q' := q + 2) g0 cn hb (C_move okF W dok) ⟨N0, by rw [e]; exact I, by omega⟩
  rw [e] at c
  exact c
theorem lA_remove (ok : k_ok G l) (g0 : k_fh G = 0) {x : Int32} (W : lp_W a A i q M H) (hi : i < 512) : k_ct (tX11_remove G l) [vR (some a), vI x] H (fun H' r => lp_W a A (i + 1) q (F_remove M x).1 H' ∧ r = lp_r (F_remove M x) x_I) := by
  obtain ⟨h, N, w, po, rfl, cn, hb, W, N0, I, hN⟩ := W
  have okF : k_ok (k_fG G (a + 31) (a + 36)) l := k_fG_ok ok
  obtain ⟨⟨lim, nmd, pk, p0, ws⟩, ⟨n9, n10, gen31, ul, w13, w8⟩, ⟨hra, rd, hl9, hx⟩, ⟨mkn, mkl, wtl⟩, ⟨dok, dm, d2, df⟩, ⟨ptl, lows⟩, hrec, hst, ver, lK⟩ := lp_env I hi
  obtain ⟨k, ck, cI⟩ := I_remove (x := x) I hi
  exact lp_call (M := M) (N := N) (w := w) (i := i) (q := q) g0 cn hb (C_remove1 okF W dok lim n9 pk p0 (rm_small I (Nat.le_of_lt hi)) (fun h1 h2 h3 => ⟨(I_rE I hi (Nat.le_refl _)).2.1, (I_rE I hi (Nat.le_refl _)).2.2, ck h1 h2 h3⟩)) ⟨_, cI, by omega⟩
theorem lA_shortName (ok : k_ok G l) (g0 : k_fh G = 0) {x : Int32} (W : lp_W a A i q M H) (hi : i < 512) : k_ct (tX11_shortName G l) [vR (some a), vI x] H (fun H' r => lp_W a A i (q + 1) M H' ∧ r = lp_r (F_shortName M x) x_I) := by
  obtain ⟨h, N, w, po, rfl, cn, hb, W, N0, I, hN⟩ := W
  have okF : k_ok (k_fG G (a + 31) (a + 36)) l := k_fG_ok ok
  obtain ⟨⟨lim, nmd, pk, p0, ws⟩, ⟨n9, n10, gen31, ul, w13, w8⟩, ⟨hra, rd, hl9, hx⟩, ⟨mkn, mkl, wtl⟩, ⟨dok, dm, d2, df⟩, ⟨ptl, lows⟩, hrec, hst, ver, lK⟩ := lp_env I hi
  have c := lp_call (A := A) (M := M) (N := N) (w := w) (i := i) (q := q) (i' := i) (q' := q + 1) g0 cn hb (C_shortName okF W dok) ⟨N0, by rw [show (F_shortName M x).1 = M from z_shortName]; exact I, by omega⟩
  rw [show (F_shortName M x).1 = M from z_shortName] at c
  exact c
theorem lA_named (ok : k_ok G l) (g0 : k_fh G = 0) {x : Int32} {nm : Int32} (W : lp_W a A i q M H) (hi : i < 512) : k_ct (tX11_named G l) [vR (some a), vI x, vI nm] H (fun H' r => lp_W a A i (q + 1) M H' ∧ r = lp_r (F_named M x nm) x_3) := by
  obtain ⟨h, N, w, po, rfl, cn, hb, W, N0, I, hN⟩ := W
  have okF : k_ok (k_fG G (a + 31) (a + 36)) l := k_fG_ok ok
  obtain ⟨⟨lim, nmd, pk, p0, ws⟩, ⟨n9, n10, gen31, ul, w13, w8⟩, ⟨hra, rd, hl9, hx⟩, ⟨mkn, mkl, wtl⟩, ⟨dok, dm, d2, df⟩, ⟨ptl, lows⟩, hrec, hst, ver, lK⟩ := lp_env I hi
  have c := lp_call (A := A) (M := M) (N := N) (w := w) (i := i) (q := q) (i' := i) (q' := q + 1) g0 cn hb (C_named okF W dok) ⟨N0, by rw [show (F_named M x nm).1 = M from z_named]; exact I, by omega⟩
  rw [show (F_named M x nm).1 = M from z_named] at c
  exact c
theorem lA_save (ok : k_ok G l) (g0 : k_fh G = 0) {x : Int32} {n : Int32} {field : Int32} (W : lp_W a A i q M H) (hi : i < 512) : k_ct (tX11_save G l) [vR (some a), vI x, vI n, vI field] H (fun H' r => lp_W a A (i + 1) q (F_save M x n field).1 H' ∧ r = lp_r (F_save M x n field) x_3) := by
  obtain ⟨h, N, w, po, rfl, cn, hb, W, N0, I, hN⟩ := W
  have okF : k_ok (k_fG G (a + 31) (a + 36)) l := k_fG_ok ok
  obtain ⟨⟨lim, nmd, pk, p0, ws⟩, ⟨n9, n10, gen31, ul, w13, w8⟩, ⟨hra, rd, hl9, hx⟩, ⟨mkn, mkl, wtl⟩, ⟨dok, dm, d2, df⟩, ⟨ptl, lows⟩, hrec, hst, ver, lK⟩ := lp_env I hi
  obtain ⟨sl, sC, sI, sL⟩ := I_saved (x := x) (n := n) (saves := true) (field := field) I hi (fun z => by cases z)
  exact lp_call (M := M) (N := N) (w := w) (i := i) (q := q) g0 cn hb (C_save okF W w8 hl9 sC) ⟨_, sI, by omega⟩
theorem lA_erase (ok : k_ok G l) (g0 : k_fh G = 0) {x : Int32} {n : Int32} (W : lp_W a A i q M H) (hi : i < 512) : k_ct (tX11_erase G l) [vR (some a), vI x, vI n] H (fun H' r => lp_W a A (i + 1) q (F_erase M x n).1 H' ∧ r = lp_r (F_erase M x n) x_3) := by
  obtain ⟨h, N, w, po, rfl, cn, hb, W, N0, I, hN⟩ := W
  have okF : k_ok (k_fG G (a + 31) (a + 36)) l := k_fG_ok ok
  obtain ⟨⟨lim, nmd, pk, p0, ws⟩, ⟨n9, n10, gen31, ul, w13, w8⟩, ⟨hra, rd, hl9, hx⟩, ⟨mkn, mkl, wtl⟩, ⟨dok, dm, d2, df⟩, ⟨ptl, lows⟩, hrec, hst, ver, lK⟩ := lp_env I hi
  obtain ⟨sl, sC, sI, sL⟩ := I_saved (x := x) (n := n) (saves := false) (field := 0) I hi (fun _ => rfl)
  exact lp_call (M := M) (N := N) (w := w) (i := i) (q := q) g0 cn hb (C_erase okF W w8 hl9 sC) ⟨_, sI, by omega⟩
theorem lA_build (ok : k_ok G l) (g0 : k_fh G = 0) {x : Int32} {most : Int32} (W : lp_W a A i q M H) (hi : i < 512) : k_ct (tX11_build G l) [vR (some a), vI x, vI most] H (fun H' r => lp_W a A (i + 1) q (F_build M x most).1 H' ∧ r = lp_r (F_build M x most) x_3) := by
  obtain ⟨h, N, w, po, rfl, cn, hb, W, N0, I, hN⟩ := W
  have okF : k_ok (k_fG G (a + 31) (a + 36)) l := k_fG_ok ok
  obtain ⟨⟨lim, nmd, pk, p0, ws⟩, ⟨n9, n10, gen31, ul, w13, w8⟩, ⟨hra, rd, hl9, hx⟩, ⟨mkn, mkl, wtl⟩, ⟨dok, dm, d2, df⟩, ⟨ptl, lows⟩, hrec, hst, ver, lK⟩ := lp_env I hi
  obtain ⟨k, ck, cI⟩ := I_build (x := x) (most := most) I hi
  exact lp_call (M := M) (N := N) (w := w) (i := i) (q := q) g0 cn hb (C_build1 okF W n9 pk p0 hrec (fun h v e => hst h e) (fun h1 h2 h3 => ⟨(I_bl I hi h1 h2 h3 (Nat.le_refl _)).2.1, (I_bl I hi h1 h2 h3 (Nat.le_refl _)).2.2, ck h1 h2 h3⟩)) ⟨_, cI, by omega⟩
theorem lA_off (ok : k_ok G l) (g0 : k_fh G = 0) {x : Int32} (W : lp_W a A i q M H) (hi : i < 512) : k_ct (tX11_off G l) [vR (some a), vI x] H (fun H' r => lp_W a A (i + 1) q (F_off M x).1 H' ∧ r = lp_r (F_off M x) x_I) := by
  obtain ⟨h, N, w, po, rfl, cn, hb, W, N0, I, hN⟩ := W
  have okF : k_ok (k_fG G (a + 31) (a + 36)) l := k_fG_ok ok
  obtain ⟨⟨lim, nmd, pk, p0, ws⟩, ⟨n9, n10, gen31, ul, w13, w8⟩, ⟨hra, rd, hl9, hx⟩, ⟨mkn, mkl, wtl⟩, ⟨dok, dm, d2, df⟩, ⟨ptl, lows⟩, hrec, hst, ver, lK⟩ := lp_env I hi
  obtain ⟨k, ck, cI⟩ := I_off (x := x) I hi
  exact lp_call (M := M) (N := N) (w := w) (i := i) (q := q) g0 cn hb (C_off okF W n9 lim pk p0 (fun h => ⟨(I_of I hi h (Nat.le_refl _)).2.1, (I_of I hi h (Nat.le_refl _)).2.2, ck h⟩)) ⟨_, cI, by omega⟩
theorem lA_rank (ok : k_ok G l) (g0 : k_fh G = 0) {x : Int32} (W : lp_W a A i q M H) (hi : i < 512) : k_ct (tX11_rank G l) [vR (some a), vI x] H (fun H' r => lp_W a A i (q + 1) M H' ∧ r = lp_r (F_rank M x) x_A) := by
  obtain ⟨h, N, w, po, rfl, cn, hb, W, N0, I, hN⟩ := W
  have okF : k_ok (k_fG G (a + 31) (a + 36)) l := k_fG_ok ok
  obtain ⟨⟨lim, nmd, pk, p0, ws⟩, ⟨n9, n10, gen31, ul, w13, w8⟩, ⟨hra, rd, hl9, hx⟩, ⟨mkn, mkl, wtl⟩, ⟨dok, dm, d2, df⟩, ⟨ptl, lows⟩, hrec, hst, ver, lK⟩ := lp_env I hi
  have c := lp_call (A := A) (M := M) (N := N) (w := w) (i := i) (q := q) (i' := i) (q' := q + 1) g0 cn hb (C_rank okF W) ⟨N0, by rw [show (F_rank M x).1 = M from z_ranked]; exact I, by omega⟩
  rw [show (F_rank M x).1 = M from z_ranked] at c
  exact c
theorem lA_rankAnew (ok : k_ok G l) (g0 : k_fh G = 0) {x : Int32} (W : lp_W a A i q M H) (hi : i < 512) : k_ct (tX11_rankAnew G l) [vR (some a), vI x] H (fun H' r => lp_W a A i (q + 1) M H' ∧ r = lp_r (F_rankAnew M x) x_A) := by
  obtain ⟨h, N, w, po, rfl, cn, hb, W, N0, I, hN⟩ := W
  have okF : k_ok (k_fG G (a + 31) (a + 36)) l := k_fG_ok ok
  obtain ⟨⟨lim, nmd, pk, p0, ws⟩, ⟨n9, n10, gen31, ul, w13, w8⟩, ⟨hra, rd, hl9, hx⟩, ⟨mkn, mkl, wtl⟩, ⟨dok, dm, d2, df⟩, ⟨ptl, lows⟩, hrec, hst, ver, lK⟩ := lp_env I hi
  have c := lp_call (A := A) (M := M) (N := N) (w := w) (i := i) (q := q) (i' := i) (q' := q + 1) g0 cn hb (C_rankAnew okF W) ⟨N0, by rw [show (F_rankAnew M x).1 = M from z_ranked]; exact I, by omega⟩
  rw [show (F_rankAnew M x).1 = M from z_ranked] at c
  exact c
theorem lA_watch (ok : k_ok G l) (g0 : k_fh G = 0) {a1 : Int32} {b1 : Int32} {c1 : Int32} (W : lp_W a A i q M H) (hi : i < 512) : k_ct (tX11_watch G l) [vR (some a), vI a1, vI b1, vI c1] H (fun H' r => lp_W a A (i + 1) q (F_watch M a1 b1 c1).1 H' ∧ r = lp_r (F_watch M a1 b1 c1) (fun k => if k = 1 then x_IA else x_IS)) := by
  obtain ⟨h, N, w, po, rfl, cn, hb, W, N0, I, hN⟩ := W
  have okF : k_ok (k_fG G (a + 31) (a + 36)) l := k_fG_ok ok
  obtain ⟨⟨lim, nmd, pk, p0, ws⟩, ⟨n9, n10, gen31, ul, w13, w8⟩, ⟨hra, rd, hl9, hx⟩, ⟨mkn, mkl, wtl⟩, ⟨dok, dm, d2, df⟩, ⟨ptl, lows⟩, hrec, hst, ver, lK⟩ := lp_env I hi
  exact lp_call (M := M) (N := N) (w := w) (i := i) (q := q) g0 cn hb (C_watch okF W wtl lim) ⟨_, I_watch I, by omega⟩
theorem y_watch {M : s_M} {a1 : Int32} {b1 : Int32} {c1 : Int32} (h : ¬ (F_watch M a1 b1 c1).2.1 = 0) : (F_watch M a1 b1 c1).1 = M := by
  revert h
  unfold F_watch
  repeat' split
  all_goals first | exact fun _ => rfl | exact fun h => absurd rfl h
theorem lA_watch_r (ok : k_ok G l) (g0 : k_fh G = 0) {a1 : Int32} {b1 : Int32} {c1 : Int32} (W : lp_W a A i q M H) (hi : i < 512) (hr : ¬ (F_watch M a1 b1 c1).2.1 = 0) : k_ct (tX11_watch G l) [vR (some a), vI a1, vI b1, vI c1] H (fun H' r => lp_W a A i (q + 2) M H' ∧ r = lp_r (F_watch M a1 b1 c1) (fun k => if k = 1 then x_IA else x_IS)) := by
  obtain ⟨h, N, w, po, rfl, cn, hb, W, N0, I, hN⟩ := W
  have okF : k_ok (k_fG G (a + 31) (a + 36)) l := k_fG_ok ok
  obtain ⟨⟨lim, nmd, pk, p0, ws⟩, ⟨n9, n10, gen31, ul, w13, w8⟩, ⟨hra, rd, hl9, hx⟩, ⟨mkn, mkl, wtl⟩, ⟨dok, dm, d2, df⟩, ⟨ptl, lows⟩, hrec, hst, ver, lK⟩ := lp_env I hi
  have e := y_watch hr
  have c := lp_call (A := A) (M := M) (N := N) (w := w) (i := i) (q := q) (i' := i) (q' := q + 2) g0 cn hb (C_watch okF W wtl lim) ⟨N0, by rw [e]; exact I, by omega⟩
  rw [e] at c
  exact c
theorem lA_fired (ok : k_ok G l) (g0 : k_fh G = 0) {x : Int32} (W : lp_W a A i q M H) (hi : i < 512) : k_ct (tX11_fired G l) [vR (some a), vI x] H (fun H' r => lp_W a A i (q + 1) M H' ∧ r = lp_r (F_fired M x) x_I) := by
  obtain ⟨h, N, w, po, rfl, cn, hb, W, N0, I, hN⟩ := W
  have okF : k_ok (k_fG G (a + 31) (a + 36)) l := k_fG_ok ok
  obtain ⟨⟨lim, nmd, pk, p0, ws⟩, ⟨n9, n10, gen31, ul, w13, w8⟩, ⟨hra, rd, hl9, hx⟩, ⟨mkn, mkl, wtl⟩, ⟨dok, dm, d2, df⟩, ⟨ptl, lows⟩, hrec, hst, ver, lK⟩ := lp_env I hi
  have c := lp_call (A := A) (M := M) (N := N) (w := w) (i := i) (q := q) (i' := i) (q' := q + 1) g0 cn hb (C_fired okF W wtl) ⟨N0, by rw [show (F_fired M x).1 = M from z_fired]; exact I, by omega⟩
  rw [show (F_fired M x).1 = M from z_fired] at c
  exact c
theorem lA_offer (ok : k_ok G l) (g0 : k_fh G = 0) {x : Int32} {v : Int32} (W : lp_W a A i q M H) (hi : i < 512) : k_ct (tX11_offer G l) [vR (some a), vI x, vI v] H (fun H' r => lp_W a A (i + 1) q (F_offer M x v).1 H' ∧ r = lp_r (F_offer M x v) x_3) := by
  obtain ⟨h, N, w, po, rfl, cn, hb, W, N0, I, hN⟩ := W
  have okF : k_ok (k_fG G (a + 31) (a + 36)) l := k_fG_ok ok
  obtain ⟨⟨lim, nmd, pk, p0, ws⟩, ⟨n9, n10, gen31, ul, w13, w8⟩, ⟨hra, rd, hl9, hx⟩, ⟨mkn, mkl, wtl⟩, ⟨dok, dm, d2, df⟩, ⟨ptl, lows⟩, hrec, hst, ver, lK⟩ := lp_env I hi
  exact lp_call (M := M) (N := N) (w := w) (i := i) (q := q) g0 cn hb (C_offer okF W w13 hl9) ⟨_, I_kp I z_offer (N' := N0 + 1) (by omega), by omega⟩
theorem y_offer {M : s_M} {x : Int32} {v : Int32} (h : ¬ (F_offer M x v).2.1 = 0) : (F_offer M x v).1 = M := by
  revert h
  unfold F_offer
  repeat' split
  all_goals first | exact fun _ => rfl | exact fun h => absurd rfl h
theorem lA_offer_r (ok : k_ok G l) (g0 : k_fh G = 0) {x : Int32} {v : Int32} (W : lp_W a A i q M H) (hi : i < 512) (hr : ¬ (F_offer M x v).2.1 = 0) : k_ct (tX11_offer G l) [vR (some a), vI x, vI v] H (fun H' r => lp_W a A i (q + 2) M H' ∧ r = lp_r (F_offer M x v) x_3) := by
  obtain ⟨h, N, w, po, rfl, cn, hb, W, N0, I, hN⟩ := W
  have okF : k_ok (k_fG G (a + 31) (a + 36)) l := k_fG_ok ok
  obtain ⟨⟨lim, nmd, pk, p0, ws⟩, ⟨n9, n10, gen31, ul, w13, w8⟩, ⟨hra, rd, hl9, hx⟩, ⟨mkn, mkl, wtl⟩, ⟨dok, dm, d2, df⟩, ⟨ptl, lows⟩, hrec, hst, ver, lK⟩ := lp_env I hi
  have e := y_offer hr
  have c := lp_call (A := A) (M := M) (N := N) (w := w) (i := i) (q := q) (i' := i) (q' := q + 2) g0 cn hb (C_offer okF W w13 hl9) ⟨N0, by rw [e]; exact I, by omega⟩
  rw [e] at c
  exact c
theorem lA_take (ok : k_ok G l) (g0 : k_fh G = 0) {x : Int32} (W : lp_W a A i q M H) (hi : i < 512) : k_ct (tX11_take G l) [vR (some a), vI x] H (fun H' r => lp_W a A (i + 1) q (F_take M x).1 H' ∧ r = lp_r (F_take M x) x_I) := by
  obtain ⟨h, N, w, po, rfl, cn, hb, W, N0, I, hN⟩ := W
  have okF : k_ok (k_fG G (a + 31) (a + 36)) l := k_fG_ok ok
  obtain ⟨⟨lim, nmd, pk, p0, ws⟩, ⟨n9, n10, gen31, ul, w13, w8⟩, ⟨hra, rd, hl9, hx⟩, ⟨mkn, mkl, wtl⟩, ⟨dok, dm, d2, df⟩, ⟨ptl, lows⟩, hrec, hst, ver, lK⟩ := lp_env I hi
  obtain ⟨k, ck, cI⟩ := I_take (x := x) I hi
  exact lp_call (M := M) (N := N) (w := w) (i := i) (q := q) g0 cn hb (C_take1 okF W n9 lim pk p0 (fun h y hy => ⟨(I_tk I hi h (Nat.le_refl _)).2.1, (I_tk I hi h (Nat.le_refl _)).2.2, ck h y hy, take_val ver hy⟩)) ⟨_, cI, by omega⟩
theorem lA_finish (ok : k_ok G l) (g0 : k_fh G = 0) {x : Int32} (W : lp_W a A i q M H) (hi : i < 512) : k_ct (tX11_finish G l) [vR (some a), vI x] H (fun H' r => lp_W a A (i + 1) q (F_finish M x).1 H' ∧ r = lp_r (F_finish M x) x_I) := by
  obtain ⟨h, N, w, po, rfl, cn, hb, W, N0, I, hN⟩ := W
  have okF : k_ok (k_fG G (a + 31) (a + 36)) l := k_fG_ok ok
  obtain ⟨⟨lim, nmd, pk, p0, ws⟩, ⟨n9, n10, gen31, ul, w13, w8⟩, ⟨hra, rd, hl9, hx⟩, ⟨mkn, mkl, wtl⟩, ⟨dok, dm, d2, df⟩, ⟨ptl, lows⟩, hrec, hst, ver, lK⟩ := lp_env I hi
  obtain ⟨k, ck, cI⟩ := I_finish (x := x) I hi
  exact lp_call (M := M) (N := N) (w := w) (i := i) (q := q) g0 cn hb (C_finish1 okF W n9 lim pk p0 (fun h y hy => ⟨(I_fn I hi (Nat.le_refl _)).2.1, (I_fn I hi (Nat.le_refl _)).2.2, ck h y hy, fin_val lK hy⟩)) ⟨_, cI, by omega⟩
theorem lA_parts (ok : k_ok G l) (g0 : k_fh G = 0) (W : lp_W a A i q M H) (hi : i < 512) : k_ct (tX11_parts G l) [vR (some a)] H (fun H' r => lp_W a A i (q + 1) M H' ∧ r = lp_r (F_parts M) x_3) := by
  obtain ⟨h, N, w, po, rfl, cn, hb, W, N0, I, hN⟩ := W
  have okF : k_ok (k_fG G (a + 31) (a + 36)) l := k_fG_ok ok
  obtain ⟨⟨lim, nmd, pk, p0, ws⟩, ⟨n9, n10, gen31, ul, w13, w8⟩, ⟨hra, rd, hl9, hx⟩, ⟨mkn, mkl, wtl⟩, ⟨dok, dm, d2, df⟩, ⟨ptl, lows⟩, hrec, hst, ver, lK⟩ := lp_env I hi
  have c := lp_call (A := A) (M := M) (N := N) (w := w) (i := i) (q := q) (i' := i) (q' := q + 1) g0 cn hb (C_parts okF W) ⟨N0, by rw [show (F_parts M).1 = M from rfl]; exact I, by omega⟩
  rw [show (F_parts M).1 = M from rfl] at c
  exact c
theorem lA_part (ok : k_ok G l) (g0 : k_fh G = 0) {x : Int32} {y : Int32} (W : lp_W a A i q M H) (hi : i < 512) : k_ct (tX11_part G l) [vR (some a), vI x, vI y] H (fun H' r => lp_W a A i (q + 1) M H' ∧ r = lp_r (F_part M x y) x_3) := by
  obtain ⟨h, N, w, po, rfl, cn, hb, W, N0, I, hN⟩ := W
  have okF : k_ok (k_fG G (a + 31) (a + 36)) l := k_fG_ok ok
  obtain ⟨⟨lim, nmd, pk, p0, ws⟩, ⟨n9, n10, gen31, ul, w13, w8⟩, ⟨hra, rd, hl9, hx⟩, ⟨mkn, mkl, wtl⟩, ⟨dok, dm, d2, df⟩, ⟨ptl, lows⟩, hrec, hst, ver, lK⟩ := lp_env I hi
  have c := lp_call (A := A) (M := M) (N := N) (w := w) (i := i) (q := q) (i' := i) (q' := q + 1) g0 cn hb (C_part okF W ptl lows) ⟨N0, by rw [show (F_part M x y).1 = M from z_part]; exact I, by omega⟩
  rw [show (F_part M x y).1 = M from z_part] at c
  exact c
theorem lA_mark (ok : k_ok G l) (g0 : k_fh G = 0) (W : lp_W a A i q M H) (hi : i < 512) : k_ct (tX11_mark G l) [vR (some a)] H (fun H' r => lp_W a A (i + 1) q (F_mark M).1 H' ∧ r = lp_r (F_mark M) (fun _ => x_IS)) := by
  obtain ⟨h, N, w, po, rfl, cn, hb, W, N0, I, hN⟩ := W
  have okF : k_ok (k_fG G (a + 31) (a + 36)) l := k_fG_ok ok
  obtain ⟨⟨lim, nmd, pk, p0, ws⟩, ⟨n9, n10, gen31, ul, w13, w8⟩, ⟨hra, rd, hl9, hx⟩, ⟨mkn, mkl, wtl⟩, ⟨dok, dm, d2, df⟩, ⟨ptl, lows⟩, hrec, hst, ver, lK⟩ := lp_env I hi
  exact lp_call (M := M) (N := N) (w := w) (i := i) (q := q) g0 cn hb (C_mark okF W mkl) ⟨_, I_mark I, by omega⟩
theorem y_mark {M : s_M} (h : ¬ (F_mark M).2.1 = 0) : (F_mark M).1 = M := by
  revert h
  unfold F_mark
  repeat' split
  all_goals first | exact fun _ => rfl | exact fun h => absurd rfl h
theorem lA_mark_r (ok : k_ok G l) (g0 : k_fh G = 0) (W : lp_W a A i q M H) (hi : i < 512) (hr : ¬ (F_mark M).2.1 = 0) : k_ct (tX11_mark G l) [vR (some a)] H (fun H' r => lp_W a A i (q + 2) M H' ∧ r = lp_r (F_mark M) (fun _ => x_IS)) := by
  obtain ⟨h, N, w, po, rfl, cn, hb, W, N0, I, hN⟩ := W
  have okF : k_ok (k_fG G (a + 31) (a + 36)) l := k_fG_ok ok
  obtain ⟨⟨lim, nmd, pk, p0, ws⟩, ⟨n9, n10, gen31, ul, w13, w8⟩, ⟨hra, rd, hl9, hx⟩, ⟨mkn, mkl, wtl⟩, ⟨dok, dm, d2, df⟩, ⟨ptl, lows⟩, hrec, hst, ver, lK⟩ := lp_env I hi
  have e := y_mark hr
  have c := lp_call (A := A) (M := M) (N := N) (w := w) (i := i) (q := q) (i' := i) (q' := q + 2) g0 cn hb (C_mark okF W mkl) ⟨N0, by rw [e]; exact I, by omega⟩
  rw [e] at c
  exact c
theorem lA_bringBack (ok : k_ok G l) (g0 : k_fh G = 0) {x : Int32} (W : lp_W a A i q M H) (hi : i < 512) : k_ct (tX11_bringBack G l) [vR (some a), vI x] H (fun H' r => lp_W a A (i + 1) q (F_bringBack M x).1 H' ∧ r = lp_r (F_bringBack M x) x_I) := by
  obtain ⟨h, N, w, po, rfl, cn, hb, W, N0, I, hN⟩ := W
  have okF : k_ok (k_fG G (a + 31) (a + 36)) l := k_fG_ok ok
  obtain ⟨⟨lim, nmd, pk, p0, ws⟩, ⟨n9, n10, gen31, ul, w13, w8⟩, ⟨hra, rd, hl9, hx⟩, ⟨mkn, mkl, wtl⟩, ⟨dok, dm, d2, df⟩, ⟨ptl, lows⟩, hrec, hst, ver, lK⟩ := lp_env I hi
  obtain ⟨k, ck, cI⟩ := I_bringBack (x := x) I hi
  exact lp_call (M := M) (N := N) (w := w) (i := i) (q := q) g0 cn hb (C_bringBack1 okF W mkl mkn lim n9 pk p0 (fun v hv h1 h2 h3 => ⟨(I_bb I hi hv (Nat.le_refl _)).2.1, (I_bb I hi hv (Nat.le_refl _)).2.2, ck v hv h1 h2 h3⟩)) ⟨_, cI, by omega⟩
theorem lA_getF (ok : k_ok G l) (g0 : k_fh G = 0) {x : Int32} {a1 : Int32} {b1 : Int32} {c1 : Int32} (W : lp_W a A i q M H) (hi : i < 512) : k_ct (tX11_get G l) [vR (some a), vI x, vI a1, vI b1, vI c1, vI (kB false)] H (fun H' r => lp_W a A i (q + 1) M H' ∧ r = lp_r (F_get M x a1 b1 c1 false) x_3) := by
  obtain ⟨h, N, w, po, rfl, cn, hb, W, N0, I, hN⟩ := W
  have okF : k_ok (k_fG G (a + 31) (a + 36)) l := k_fG_ok ok
  obtain ⟨⟨lim, nmd, pk, p0, ws⟩, ⟨n9, n10, gen31, ul, w13, w8⟩, ⟨hra, rd, hl9, hx⟩, ⟨mkn, mkl, wtl⟩, ⟨dok, dm, d2, df⟩, ⟨ptl, lows⟩, hrec, hst, ver, lK⟩ := lp_env I hi
  have c := lp_call (A := A) (M := M) (N := N) (w := w) (i := i) (q := q) (i' := i) (q' := q + 1) g0 cn hb (C_get okF W hra rd (counts := false)) ⟨N0, by rw [show (F_get M x a1 b1 c1 false).1 = M from z_getF]; exact I, by omega⟩
  rw [show (F_get M x a1 b1 c1 false).1 = M from z_getF] at c
  exact c
theorem lA_rangeF (ok : k_ok G l) (g0 : k_fh G = 0) {x : Int32} {a1 : Int32} {b1 : Int32} (W : lp_W a A i q M H) (hi : i < 512) : k_ct (tX11_range G l) [vR (some a), vI x, vI a1, vI b1, vI (kB false)] H (fun H' r => lp_W a A i (q + 1) M H' ∧ r = lp_r (F_range M x a1 b1 false) x_3) := by
  obtain ⟨h, N, w, po, rfl, cn, hb, W, N0, I, hN⟩ := W
  have okF : k_ok (k_fG G (a + 31) (a + 36)) l := k_fG_ok ok
  obtain ⟨⟨lim, nmd, pk, p0, ws⟩, ⟨n9, n10, gen31, ul, w13, w8⟩, ⟨hra, rd, hl9, hx⟩, ⟨mkn, mkl, wtl⟩, ⟨dok, dm, d2, df⟩, ⟨ptl, lows⟩, hrec, hst, ver, lK⟩ := lp_env I hi
  have c := lp_call (A := A) (M := M) (N := N) (w := w) (i := i) (q := q) (i' := i) (q' := q + 1) g0 cn hb (C_range okF W lim nmd hra rd (counts := false)) ⟨N0, by rw [show (F_range M x a1 b1 false).1 = M from z_rangeF]; exact I, by omega⟩
  rw [show (F_range M x a1 b1 false).1 = M from z_rangeF] at c
  exact c
theorem lA_rangeAt3 (ok : k_ok G l) (g0 : k_fh G = 0) {a1 b1 p1 w1 : Int32} (W : lp_W a A i q M H) (hi : i < 512) (hr : (g_X M 3).2.2.length + 1 ≤ 4 * i) : k_ct (tX11_rangeAt G l) [vR (some a), vI 3, vI a1, vI b1, vI p1, vI w1] H (fun H' r => lp_W a A i (q + 1) (F_rangeAt M 3 a1 b1 p1 w1).1 H' ∧ r = lp_r (F_rangeAt M 3 a1 b1 p1 w1) x_3) := by
  obtain ⟨h, N, w, po, rfl, cn, hb, W, N0, I, hN⟩ := W
  have okF : k_ok (k_fG G (a + 31) (a + 36)) l := k_fG_ok ok
  obtain ⟨⟨lim, nmd, pk, p0, ws⟩, ⟨n9, n10, gen31, ul, w13, w8⟩, ⟨hra, rd, hl9, hx⟩, ⟨mkn, mkl, wtl⟩, ⟨dok, dm, d2, df⟩, ⟨ptl, lows⟩, hrec, hst, ver, lK⟩ := lp_env I hi
  refine lp_call (M := M) (N := N) (w := w) (i := i) (q := q) g0 cn hb (C_rangeAt okF W lim nmd hra rd) ⟨N0, ?_, by omega⟩
  unfold F_rangeAt
  repeat' split
  all_goals first | exact I | exact I_rd3 I (by rw [List.length_append]; exact hr)
end CALLS
