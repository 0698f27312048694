/-! THE CLASS READS KEYS -/
/-- a transaction's rows move -/
theorem tx_nA {a t : Nat} (ht : t < 4) : ∀ i, i < 16 → ¬ c_At a t (a + i) := fun i hi z => by
  have := c_T_lt ht
  rcases z with z | z | z <;> omega
theorem tx_nO {a t ser w : Nat} {h : k_H} {X : Nat → s_X} (hX : c_TX a h X ser w) (ht : t < 4) : ∀ q ci fs, h.1 q = some (k_o ci fs) → ci ≠ 12 → ¬ c_At a t q := fun q ci fs hq hc z => by
  obtain ⟨CXf, b1, -⟩ := hX
  obtain ⟨RS, c, cR, kept, o1, ⟨c1, c2, c3⟩, -⟩ := b1 t ht
  rcases z with z | z | z
  · rw [z, o1] at hq; cases hq; exact hc rfl
  · rw [z, c1.1] at hq; cases hq
  · rw [z, c2.1] at hq; cases hq
theorem rs_tx {a o t w w' n S : Nat} {K : List Nat} {h h' : k_H} {M M' : s_M} {E : e_S} {Q : List k_K2} {PS : List k_PT} (s : c_sE a h E n Q S) (r : c_rs a h M Q w PS) (ht : t < 4) (m : k_mo a K (c_At a t) o h h') (hK : ∀ k ∈ K, k = 4) (x : c_TX a h' (g_X M') (g_ser M') w')
    (e : g_MK M' = g_MK M ∧ g_DS M' = g_DS M ∧ g_WT M' = g_WT M ∧ g_gen M' = g_gen M ∧ g_los M' = g_los M ∧ g_why M' = g_why M) : c_sE a h' E n Q S ∧ c_rs a h' M' Q w' PS := by
  obtain ⟨r1, r2, r3, r4, r5, r6, r7⟩ := r
  have nA := tx_nA (a := a) ht
  have nO := tx_nO r1 ht
  have nk : ∀ k, k ≠ 4 → k ∉ K := fun k h z => h (hK k z)
  obtain ⟨e1, e2, e3, e4, e5, e6⟩ := e
  refine ⟨sE_fr s m ⟨nk 3 (by decide), nk 6 (by decide), nk 7 (by decide), nk 10 (by decide), nk 11 (by decide)⟩ (fun i h1 h2 => nA i (by omega)) (fun q ci fs hq hc => nO q ci fs hq (by rcases hc with e | e | e <;> rw [e] <;> decide)), x, pa_fr r2 m ⟨nk 8 (by decide), nk 9 (by decide)⟩ ⟨nA 6 (by omega), nA 7 (by omega)⟩ (fun q fs hq => nO q 8 fs hq (by decide)), ?_, cl_fr r4 m.1 (nk 3 (by decide)) ⟨nA 10 (by omega), nA 11 (by omega), nA 12 (by omega)⟩, ?_, ?_, ?_⟩
  · have := ob_fr r3 m.1 (nk 14 (by decide)) (nA 0 (by omega))
    unfold c_ob at this ⊢
    rw [e1, e2, e4, e5, e6]
    exact this
  · rw [e1]; exact mk_fr r5 m.1 (nA 15 (by omega))
  · rw [e2]; exact dr_fr r6 m.1 (nk 5 (by decide)) (nA 13 (by omega)) (fun q fs hq => nO q 5 fs hq (by decide))
  · rw [e3]; exact wa_fr r7 m.1 (nk 13 (by decide)) (nA 14 (by omega)) (fun q fs hq => nO q 13 fs hq (by decide))
/-- the own cell changes -/
theorem cell_rs {a w n S : Nat} {h h' : k_H} {M : s_M} {E : e_S} {Q : List k_K2} {PS : List k_PT} (s : c_sE a h E n Q S) (r : c_rs a h M Q w PS) (z : Option Int32 × Bool) (e : h' = k_up h (a + 10) (o_cel z.1 z.2)) : c_sE a h' E n Q S ∧ c_rs a h' M Q w PS ∧ h'.1 (a + 10) = some (o_cel z.1 z.2) ∧ k_mo a [] (fun q => q = a + 10) 0 h h' := by
  obtain ⟨r1, r2, r3, r4, r5, r6, r7⟩ := r
  obtain ⟨⟨z0, l1⟩, ⟨cap, l2⟩, ys, cap2, l3⟩ := id r4
  have m : k_mo a [] (fun q => q = a + 10) 0 h h' := by rw [e]; exact mv_o l1 (Or.inr rfl)
  have nO : ∀ q ci fs, h.1 q = some (k_o ci fs) → ci ≠ 3 → ¬ (q = a + 10) := fun q ci fs hq hc z => by rw [z, l1] at hq; cases hq; exact hc rfl
  have es : h'.1 (a + 10) = some (o_cel z.1 z.2) := by rw [e]; exact k_up_self _ _ _
  refine ⟨sE_fr s m (by simp) (fun i h1 h2 z => by omega) (fun q ci fs hq hc => nO q ci fs hq (by rcases hc with e | e | e <;> rw [e] <;> decide)), ⟨TX_fr r1 m (by simp) (fun q ci fs hq hc => nO q ci fs hq (by rcases hc with e | e <;> rw [e] <;> decide)) (fun i h1 h2 z => by omega), pa_fr r2 m (by simp) ⟨by omega, by omega⟩ (fun q fs hq => nO q 8 fs hq (by decide)), ob_fr r3 m.1 (by simp) (by omega), ⟨⟨z, es⟩, ⟨cap, m.1 _ _ l2 (by omega) (fun ci fs e => by cases e)⟩, ys, cap2, m.1 _ _ l3 (by omega) (fun ci fs e => by cases e)⟩, mk_fr r5 m.1 (by omega), dr_fr r6 m.1 (by simp) (by omega) (fun q fs hq => nO q 5 fs hq (by decide)), wa_fr r7 m.1 (by simp) (by omega) (fun q fs hq => nO q 13 fs hq (by decide))⟩, es, m⟩
theorem tx_obj {a t ser w : Nat} {h : k_H} {X : Nat → s_X} (hX : c_TX a h X ser w) (ht : t < 4) : ∃ kept : Nat, h.1 (a + c_T t) = some (k_o 12 [vR (some (a + (c_T t + 1))), vR (some (a + (c_T t + 2))), vI (kB (X t).1.1), vI (kB (X t).1.2.1), vI (nI (X t).1.2.2.1), vI (nI (X t).1.2.2.2.1), vI (c_dn (X t).1.2.2.2.2), vI (nI kept)]) ∧ ((X t).1.1 = true → kept = (X t).2.1.length) := by
  obtain ⟨CXf, b1, -⟩ := hX
  obtain ⟨RS, c, cR, kept, o1, -, d⟩ := b1 t ht
  exact ⟨kept, o1, fun e => (d e).1.2⟩
section CRD
variable {G : k_G} {l : Launch}
theorem c_begun (ok : k_ok G l) {a t ser w : Nat} {h : k_H} {X : Nat → s_X} (hX : c_TX a h X ser w) (ht : t < 4) (hb : (X t).1.1 = true) : k_ctv (tX11_requireBegun G l) [vR (some (a + c_T t))] h (fun h' => h' = h) := by
  obtain ⟨kept, o, -⟩ := tx_obj hX ht
  refine k_ctv_of (eX11_requireBegun ok.2 (bX11_requireBegun_0 o rfl (fun _ => bX11_requireBegun_18 ⟨rfl, rfl⟩) (fun z => absurd (kB_0.mp z) (by rw [hb]; decide))))
theorem c_begunX (ok : k_ok G l) {a t ser w : Nat} {h : k_H} {X : Nat → s_X} (hX : c_TX a h X ser w) (ht : t < 4) (hb : (X t).1.1 = false) : k_ctx (tX11_requireBegun G l) [vR (some (a + c_T t))] h x_IS (fun h' => h' = k_sk h 1 6) := by
  obtain ⟨kept, o, -⟩ := tx_obj hX ht
  refine k_ctx_of (eX11_requireBegun ok.2 (bX11_requireBegun_0 o rfl (fun z => absurd (kB_n0.mp z) (by rw [hb]; decide)) (fun _ => bX11_requireBegun_7 ⟨rfl, rfl⟩)))
theorem c_room (ok : k_ok G l) {a t ser w : Nat} {h : k_H} {X : Nat → s_X} (hX : c_TX a h X ser w) (ht : t < 4) (hb : (X t).1.1 = true) (hl : (X t).2.1.length < 12) : k_ctv (tX11_requireRoom G l) [vR (some (a + c_T t))] h (fun h' => h' = h) := by
  obtain ⟨kept, o, hk⟩ := tx_obj hX ht
  refine k_ctv_of (eX11_requireRoom ok.2 (bX11_requireRoom_0 (c_begun ok hX ht hb) ?_))
  rintro _ rfl
  rw [hk hb] at o
  exact bX11_requireRoom_4 o rfl (fun _ => bX11_requireRoom_24 ⟨rfl, rfl⟩) (fun z => absurd ((nI_ltI (b := 12) (by omega) (by omega)).mpr hl) z)
theorem c_roomX (ok : k_ok G l) {a t ser w : Nat} {h : k_H} {X : Nat → s_X} (hX : c_TX a h X ser w) (ht : t < 4) (hl9 : (X t).2.1.length < 2 ^ 20) (hb : (!(X t).1.1 || decide (12 ≤ (X t).2.1.length)) = true) : k_ctx (tX11_requireRoom G l) [vR (some (a + c_T t))] h x_IS (fun h' => h' = k_sk h 1 6) := by
  obtain ⟨kept, o, hk⟩ := tx_obj hX ht
  cases hbb : (X t).1.1 with
  | false =>
    refine k_ctx_of (eX11_requireRoom ok.2 (bX11_requireRoom_0x (c_begunX ok hX ht hbb) ?_))
    rintro _ rfl
    exact ⟨rfl, rfl⟩
  | true =>
    rw [hbb, Bool.not_true, Bool.false_or, decide_eq_true_eq] at hb
    refine k_ctx_of (eX11_requireRoom ok.2 (bX11_requireRoom_0 (c_begun ok hX ht hbb) ?_))
    rintro _ rfl
    rw [hk hbb] at o
    exact bX11_requireRoom_4 o rfl (fun z => absurd ((nI_ltI (b := 12) (by omega) (by omega)).mp z) (by omega)) (fun _ => bX11_requireRoom_13 ⟨rfl, rfl⟩)
theorem c_X_look (ok : k_ok G l) {a t ser w c : Nat} {h : k_H} {X : Nat → s_X} {x : Option Nat} {o : Option Int32} {z : Option Int32 × Bool} (hX : c_TX a h X ser w) (ht : t < 4) (hb : (X t).1.1 = true) (hC : h.1 (a + 10) = some (o_cel z.1 z.2)) (hc : c < 2 ^ 62) (hx : (x = none ∧ o = none) ∨ (∃ a k v b e, x = some a ∧ h.1 a = some (o_ent k v b e o))) :
    k_ctv (tX9_look G l) [vR (some (a + c_T t)), vR (some (a + 10)), vJ (lN c), vR x] h (fun h' => h' = k_up h (a + 10) (o_cel (s_see c (X t).2.1 (o, false)).1 (s_see c (X t).2.1 (o, false)).2)) := by
  obtain ⟨CXf, b1, -⟩ := hX
  obtain ⟨RS, cap, cR, kept, o1, ⟨c1, c2, c3⟩, d⟩ := b1 t ht
  obtain ⟨h', tr, e⟩ := c_X9_look ok o1 hC c1 hc hx
  refine ⟨h', tr, ?_⟩
  rw [e, see_mc, ← (d hb).1.1]
theorem c_readCounting (ok : k_ok G l) {a t N w S c : Nat} {B : Nat × Nat} {h : k_H} {M : s_M} {Q : List k_K2} {PS : List k_PT} (s : c_sE a h (g_E M) (g_n M) Q S) (r : c_rs a h M Q w PS) (co : c_co a B h N) (ht : t < 4) (hb : (g_X M t).1.1 = true) (hc : c < 2 ^ 60) (hra : (g_X M t).1.2.2.1 < 2 ^ 31) (hl : (g_X M t).2.2.length < 2048) :
    k_cti (tX11_readCounting G l) [vR (some a), vR (some (a + c_T t)), vJ (lN c)] h (fun h' v => v = o_told (g_see M t c).1 ∧ c_sE a h' (g_E M) (g_n M) Q S ∧ c_rs a h' (g_rk M t c) Q w PS ∧ c_co a B h' (N + 1)) := by
  obtain ⟨r1, r2, r3, r4, r5, r6, r7⟩ := id r
  obtain ⟨kept, o, -⟩ := tx_obj r1 ht
  obtain ⟨KS, L, WS, z, st, -⟩ := id s
  obtain ⟨⟨z0, l1⟩, -⟩ := id r4
  refine k_cti_of (eX11_readCounting ok.2 (bX11_readCounting_0 r3 rfl rfl o rfl (k_is_o (st_obj st)) (c_E_entryIn ok s (by omega) hra) ?_))
  rintro _ x ⟨hh, hx⟩
  rw [hh]
  refine bX11_readCounting_18 (k_is_o o) (c_X_look ok r1 ht hb l1 (by omega) hx) ?_
  rintro h1 e1
  obtain ⟨s1, q1, l11, m1⟩ := cell_rs s r _ e1
  have co1 := co_mo co m1
  obtain ⟨r11, r12, r13, r14, r15, r16, r17⟩ := id q1
  obtain ⟨kept1, o1, -⟩ := tx_obj r11 ht
  refine bX11_readCounting_21 (k_is_o o1) (c_X_putDownKey ok r11 ht hb hc hl) ?_
  rintro h2 ⟨x2, m2⟩
  obtain ⟨s2, q2⟩ := rs_tx (M' := g_rk M t c) s1 q1 ht m2 (by simp) x2 ⟨rfl, rfl, rfl, rfl, rfl, rfl⟩
  have co2 := co_mo co1 m2
  have l12 : h2.1 (a + 10) = some (o_cel (g_see M t c).1 (g_see M t c).2) := m2.1 _ _ l11 (tx_nA ht 10 (by omega)) (fun _ _ _ => List.not_mem_nil)
  refine bX11_readCounting_26 q2.2.2.1 rfl (k_is_o l12) (c_X0_told ok l12) ?_
  rintro _ _ ⟨hh, rfl⟩
  rw [hh]
  exact bX11_readCounting_33 ⟨_, rfl, o_told_eq _, s2, q2, co2⟩
end CRD
