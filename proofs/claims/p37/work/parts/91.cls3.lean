section
/-! THE CLASS'S WHOLE WORLD, AS ONE PREDICATE -/
def c_ob (a : Nat) (h : k_H) (M : s_M) : Prop := h.1 a = some (k_o 14 [vR (some (a + 1)), vR (some (a + 6)), vR (some (a + 10)), vR (some (a + 11)), vR (some (a + 12)), vR (some (a + 13)), vR (some (a + 14)), vR (some (a + 15)), vI (nI (g_MK M).length), vI (nI (g_gen M)), vI (nI (g_los M)), vI (g_why M), vI (nI ((g_DS M).2 - 1))])
def c_cl (a : Nat) (h : k_H) : Prop := (∃ z : Option Int32 × Bool, h.1 (a + 10) = some (o_cel z.1 z.2)) ∧ (∃ cap, h.1 (a + 11) = some (k_l [a + 16, a + 20, a + 23, a + 26] cap)) ∧ ∃ ys cap, h.1 (a + 12) = some (k_l ys cap)
def c_mk (a : Nat) (h : k_H) (MK : List Nat) : Prop := ∃ f : Nat → Int32, h.1 (a + 15) = some (k_i 10 f) ∧ ∀ (i v : Nat), MK[i]? = some v → f i = nI v
def c_dr (a : Nat) (h : k_H) (D : List s_D) : Prop := ∃ (da : Nat → Nat) (cap : Nat), h.1 (a + 13) = some (k_l (D.map (fun x => da x.1)) cap) ∧ (∀ x ∈ D, h.1 (da x.1) = some (k_o 5 [vI (nI x.1), vI (nI x.2.2.2), vR (x.2.1.map da), vI (nI x.2.2.1)])) ∧ ∀ x ∈ D, ∀ y ∈ D, da x.1 = da y.1 → x.1 = y.1
def c_wa (a : Nat) (h : k_H) (WT : List (Nat × Int32)) (Q : List k_K2) : Prop := ∃ (WA : List Nat) (cap : Nat), h.1 (a + 14) = some (k_l WA cap) ∧ (WA.length = WT.length ∧ Q.length = WT.length ∧ WA.Nodup) ∧ ∀ (i b : Nat) (w : Nat × Int32) (q : k_K2), WA[i]? = some b → WT[i]? = some w → Q[i]? = some q → q.1 = w.1 ∧ h.1 b = some (k_o 13 [vR (some q.2), vI w.2])
/-- frames -/
theorem ob_fr {a : Nat} {K : List Nat} {A : Nat → Prop} {h h' : k_H} {M : s_M} (b : c_ob a h M) (m : k_fr K A h h') (hK : 14 ∉ K) (hA : ¬ A a) : c_ob a h' M := m _ _ b hA (fun ci fs e => by cases e; exact hK)
theorem cl_fr {a : Nat} {K : List Nat} {A : Nat → Prop} {h h' : k_H} (b : c_cl a h) (m : k_fr K A h h') (hK : 3 ∉ K) (hA : ¬ A (a + 10) ∧ ¬ A (a + 11) ∧ ¬ A (a + 12)) : c_cl a h' := by
  obtain ⟨⟨z, b1⟩, ⟨cap, b2⟩, ys, cap2, b3⟩ := b
  exact ⟨⟨z, m _ _ b1 hA.1 (fun ci fs e => by cases e; exact hK)⟩, ⟨cap, m _ _ b2 hA.2.1 (fun ci fs e => by cases e)⟩, ys, cap2, m _ _ b3 hA.2.2 (fun ci fs e => by cases e)⟩
theorem mk_fr {a : Nat} {K : List Nat} {A : Nat → Prop} {h h' : k_H} {MK : List Nat} (b : c_mk a h MK) (m : k_fr K A h h') (hA : ¬ A (a + 15)) : c_mk a h' MK := by
  obtain ⟨f, b1, b2⟩ := b
  exact ⟨f, m _ _ b1 hA (fun ci fs e => by cases e), b2⟩
theorem dr_fr {a : Nat} {K : List Nat} {A : Nat → Prop} {h h' : k_H} {D : List s_D} (b : c_dr a h D) (m : k_fr K A h h') (hK : 5 ∉ K) (hA : ¬ A (a + 13)) (hO : ∀ q fs, h.1 q = some (k_o 5 fs) → ¬ A q) : c_dr a h' D := by
  obtain ⟨da, cap, b1, b2, b3⟩ := b
  exact ⟨da, cap, m _ _ b1 hA (fun ci fs e => by cases e), fun x hx => m _ _ (b2 x hx) (hO _ _ (b2 x hx)) (fun ci fs e => by cases e; exact hK), b3⟩
theorem wa_fr {a : Nat} {K : List Nat} {A : Nat → Prop} {h h' : k_H} {WT : List (Nat × Int32)} {Q : List k_K2} (b : c_wa a h WT Q) (m : k_fr K A h h') (hK : 13 ∉ K) (hA : ¬ A (a + 14)) (hO : ∀ q fs, h.1 q = some (k_o 13 fs) → ¬ A q) : c_wa a h' WT Q := by
  obtain ⟨WA, cap, b1, b2, b3⟩ := b
  exact ⟨WA, cap, m _ _ b1 hA (fun ci fs e => by cases e), b2, fun i b w q h1 h2 h3 => ⟨(b3 i b w q h1 h2 h3).1, m _ _ (b3 i b w q h1 h2 h3).2 (hO _ _ (b3 i b w q h1 h2 h3).2) (fun ci fs e => by cases e; exact hK)⟩⟩
theorem pa_fr {a o : Nat} {K : List Nat} {A : Nat → Prop} {h h' : k_H} {PS : List k_PT} (b : c_pa a h PS) (m : k_mo a K A o h h') (hK : 8 ∉ K ∧ 9 ∉ K) (hA : ¬ A (a + 6) ∧ ¬ A (a + 7)) (hO : ∀ q fs, h.1 q = some (k_o 8 fs) → ¬ A q) : c_pa a h' PS := by
  obtain ⟨b1, ⟨cap, p1, p2, p3⟩, b3, b4, b5⟩ := b
  exact ⟨m.1 _ _ b1 hA.1 (fun ci fs e => by cases e; exact hK.2), ⟨cap, m.1 _ _ p1 hA.2 (fun ci fs e => by cases e), fun y hy => ⟨m.1 _ _ (p2 y hy).1 (hO _ _ (p2 y hy).1) (fun ci fs e => by cases e; exact hK.1), (p2 y hy).2⟩, p3⟩, b3, Nat.le_trans b4 m.2.2.1, m.2.1 b5⟩
theorem st_fr {a o : Nat} {K : List Nat} {A : Nat → Prop} {h h' : k_H} {KS : List k_K2} {L : List k_E4} {WS : List k_SP} {n : Nat} {z : Option Int32 × Bool} (b : c_st a h KS L WS n z) (m : k_mo a K A o h h') (hK : 3 ∉ K ∧ 6 ∉ K ∧ 7 ∉ K ∧ 10 ∉ K ∧ 11 ∉ K) (hA : ∀ i, 0 < i → i < 6 → ¬ A (a + i)) (hO : ∀ q ci fs, h.1 q = some (k_o ci fs) → ci = 6 ∨ ci = 7 ∨ ci = 10 → ¬ A q) : c_st a h' KS L WS n z := by
  obtain ⟨cK, cW, cH, xs, ka, ⟨s1, s2, s3, s4, s5⟩, ⟨t1, t2, t3, t4⟩, tL, tW, tn, ta, tw⟩ := b
  have o6 : ∀ (q : Nat) (fs : List k_V), h.1 q = some (k_o 6 fs) → h'.1 q = some (k_o 6 fs) := fun q fs hq => m.1 _ _ hq (hO _ _ _ hq (by simp)) (fun ci fs e => by cases e; exact hK.2.1)
  exact ⟨cK, cW, cH, xs, ka, ⟨m.1 _ _ s1 (hA 1 (by omega) (by omega)) (fun ci fs e => by cases e; exact hK.2.2.2.2), m.1 _ _ s2 (hA 2 (by omega) (by omega)) (fun ci fs e => by cases e), m.1 _ _ s3 (hA 3 (by omega) (by omega)) (fun ci fs e => by cases e), m.1 _ _ s4 (hA 4 (by omega) (by omega)) (fun ci fs e => by cases e), m.1 _ _ s5 (hA 5 (by omega) (by omega)) (fun ci fs e => by cases e; exact hK.1)⟩, ⟨⟨fun x hx => ⟨(t1.1 x hx).1, m.1 _ _ (t1.1 x hx).2 (hO _ _ _ (t1.1 x hx).2 (by simp)) (fun ci fs e => by cases e; exact hK.2.2.1)⟩, t1.2⟩, t2, r_log_keep6 o6 t3, t4⟩, tL, fun x hx => ⟨m.1 _ _ (tW x hx).1 (hO _ _ _ (tW x hx).1 (by simp)) (fun ci fs e => by cases e; exact hK.2.2.2.1), (tW x hx).2⟩, tn, Nat.le_trans ta m.2.2.1, m.2.1 tw⟩
theorem sE_fr {a o : Nat} {K : List Nat} {A : Nat → Prop} {h h' : k_H} {E : e_S} {n S : Nat} {Q : List k_K2} (b : c_sE a h E n Q S) (m : k_mo a K A o h h') (hK : 3 ∉ K ∧ 6 ∉ K ∧ 7 ∉ K ∧ 10 ∉ K ∧ 11 ∉ K) (hA : ∀ i, 0 < i → i < 6 → ¬ A (a + i)) (hO : ∀ q ci fs, h.1 q = some (k_o ci fs) → ci = 6 ∨ ci = 7 ∨ ci = 10 → ¬ A q) : c_sE a h' E n Q S := by
  obtain ⟨KS, L, WS, z, st, r, q, e⟩ := b
  exact ⟨KS, L, WS, z, st_fr st m hK hA hO, r, q, e⟩
theorem sE_A5 {a : Nat} {h : k_H} {E : e_S} {n S : Nat} {Q : List k_K2} (b : c_sE a h E n Q S) {q ci : Nat} {fs : List k_V} (hq : h.1 q = some (k_o ci fs)) (hc : ci ≠ 3) : ¬ c_A5 a q := by
  obtain ⟨KS, L, WS, z, ⟨cK, cW, cH, xs, ka, ⟨s1, s2, s3, s4, s5⟩, -⟩, -⟩ := b
  rintro (e | e | e | e)
  · rw [e, s2] at hq; cases hq
  · rw [e, s3] at hq; cases hq
  · rw [e, s4] at hq; cases hq
  · rw [e, s5] at hq; cases hq; exact hc rfl
end
section
/-! THE CLASS'S WORLD AND THE STATE; transactions begin -/
def c_rs (a : Nat) (h : k_H) (M : s_M) (Q : List k_K2) (w : Nat) (PS : List k_PT) : Prop := c_TX a h (g_X M) (g_ser M) w ∧ c_pa a h PS ∧ c_ob a h M ∧ c_cl a h ∧ c_mk a h (g_MK M) ∧ c_dr a h (g_DS M).1 ∧ c_wa a h (g_WT M) Q
def c_co (a : Nat) (B : Nat × Nat) (h : k_H) (T : Nat) : Prop := h.2.1 ≤ B.1 + kT kg1 a h + T ∧ h.2.2 ≤ B.2 + kT kg2 a h + 6 * T ∧ ∀ i, i < 31 → kcp (h.1 (a + i)) ≤ k_bd i
def g_V (M : s_M) : List Nat := m_V (g_E M).1 (g_n M) (g_E M).2.1
def c_W (a : Nat) (B : Nat × Nat) (h : k_H) (M : s_M) (N w : Nat) : Prop := ∃ (Q : List k_K2) (S : Nat) (PS : List k_PT), c_sE a h (g_E M) (g_n M) Q S ∧ c_rs a h M Q w PS ∧ (PS.map k_pr = g_PT M ∧ p_ho (g_V M) (g_V M).length PS) ∧ c_co a B h (S + N)
theorem co_mo {a o T : Nat} {B : Nat × Nat} {K : List Nat} {A : Nat → Prop} {h h' : k_H} (c : c_co a B h T) (m : k_mo a K A o h h') : c_co a B h' (T + o) := by
  obtain ⟨c1, c2, c3⟩ := c
  obtain ⟨m1, m2, m3, m4, m5, m6⟩ := m
  exact ⟨by omega, by omega, fun i hi => m6 i hi (c3 i hi)⟩
theorem rs_fr {a o w : Nat} {K : List Nat} {A : Nat → Prop} {h h' : k_H} {M : s_M} {Q : List k_K2} {PS : List k_PT} (r : c_rs a h M Q w PS) (m : k_mo a K A o h h') (hK : ∀ k ∈ K, k = 6 ∨ k = 7 ∨ k = 11) (hA : ∀ i, i < 31 → i = 0 ∨ 5 < i → ¬ A (a + i)) (hO : ∀ q ci fs, h.1 q = some (k_o ci fs) → ci ≠ 3 → ¬ A q) : c_rs a h' M Q w PS := by
  obtain ⟨r1, r2, r3, r4, r5, r6, r7⟩ := r
  have nk : ∀ k, k ≠ 6 → k ≠ 7 → k ≠ 11 → k ∉ K := fun k h1 h2 h3 z => by rcases hK k z with e | e | e; exact h1 e; exact h2 e; exact h3 e
  exact ⟨TX_fr r1 m ⟨nk 4 (by decide) (by decide) (by decide), nk 10 (by decide) (by decide) (by decide), nk 12 (by decide) (by decide) (by decide)⟩ (fun q ci fs hq hc => hO q ci fs hq (by rcases hc with e | e <;> rw [e] <;> decide)) (fun i h1 h2 => hA i h2 (Or.inr (by omega))),
    pa_fr r2 m ⟨nk 8 (by decide) (by decide) (by decide), nk 9 (by decide) (by decide) (by decide)⟩ ⟨hA 6 (by decide) (Or.inr (by decide)), hA 7 (by decide) (Or.inr (by decide))⟩ (fun q fs hq => hO q 8 fs hq (by decide)),
    ob_fr r3 m.1 (nk 14 (by decide) (by decide) (by decide)) (hA 0 (by decide) (Or.inl rfl)),
    cl_fr r4 m.1 (nk 3 (by decide) (by decide) (by decide)) ⟨hA 10 (by decide) (Or.inr (by decide)), hA 11 (by decide) (Or.inr (by decide)), hA 12 (by decide) (Or.inr (by decide))⟩,
    mk_fr r5 m.1 (hA 15 (by decide) (Or.inr (by decide))),
    dr_fr r6 m.1 (nk 5 (by decide) (by decide) (by decide)) (hA 13 (by decide) (Or.inr (by decide))) (fun q fs hq => hO q 5 fs hq (by decide)),
    wa_fr r7 m.1 (nk 13 (by decide) (by decide) (by decide)) (hA 14 (by decide) (Or.inr (by decide))) (fun q fs hq => hO q 13 fs hq (by decide))⟩
/-- a move of the store -/
theorem rs_sto {a o w n S : Nat} {h h' : k_H} {M : s_M} {E : e_S} {Q Q' : List k_K2} {PS : List k_PT} (r : c_rs a h M Q w PS) (e : c_sE a h E n Q' S) (m : k_mo a [6, 7, 11] (c_A5 a) o h h') : c_rs a h' M Q w PS :=
  rs_fr r m (fun k hk => by simpa using hk) (fun i hi hc z => by rcases z with z | z | z | z <;> omega) (fun q ci fs hq hc => sE_A5 e hq hc)
/-- nothing of the world moves -/
theorem W_still {a o N w : Nat} {B : Nat × Nat} {h h' : k_H} {M : s_M} (W : c_W a B h M N w) (m : k_mo a [] (fun _ => False) o h h') : c_W a B h' M (N + o) w := by
  obtain ⟨Q, S, PS, s, r, p, c⟩ := W
  refine ⟨Q, S, PS, sE_fr s m (by simp) (fun _ _ _ z => z) (fun _ _ _ _ _ z => z), rs_fr r m (fun k hk => by cases hk) (fun _ _ _ z => z) (fun _ _ _ _ _ z => z), p, ?_⟩
  have := co_mo c m
  rw [Nat.add_assoc] at this
  exact this
theorem W_sk {a N w : Nat} {B : Nat × Nat} {h : k_H} {M : s_M} (W : c_W a B h M N w) : c_W a B (k_sk h 1 6) M (N + 1) w := W_still W mv_sk
def x_IO : String := "java/lang/IndexOutOfBoundsException"
def x_IA : String := "java/lang/IllegalArgumentException"
def x_IS : String := "java/lang/IllegalStateException"
/-- how a call ends: R is what the state's function says, X its exceptions -/
def c_R (a : Nat) (B : Nat × Nat) (R : s_M × Nat × Int32) (X : Nat → String) (N w : Nat) : k_H → k_R → Prop := fun h' r => c_W a B h' R.1 N w ∧ r = if R.2.1 = 0 then .inl (some (vI R.2.2)) else .inr (X R.2.1)
def c_Rv (a : Nat) (B : Nat × Nat) (R : s_M × Nat × Int32) (X : Nat → String) (N w : Nat) : k_H → k_R → Prop := fun h' r => c_W a B h' R.1 N w ∧ r = if R.2.1 = 0 then .inl none else .inr (X R.2.1)
section CBG
variable {G : k_G} {l : Launch}
theorem c_trAt (ok : k_ok G l) {a t : Nat} {h : k_H} {M : s_M} (hob : c_ob a h M) (hcl : c_cl a h) {ser w : Nat} {X : Nat → s_X} (hX : c_TX a h X ser w) (ht : t < 4) : k_ctr (tX11_transactionAt G l) [vR (some a), vI (nI t)] h (fun h' v => h' = h ∧ v = some (a + c_T t)) := by
  obtain ⟨-, ⟨cap, l1⟩, -⟩ := hcl
  obtain ⟨CXf, b1, -⟩ := hX
  obtain ⟨RS, c, cR, kept, o1, -⟩ := b1 t ht
  have hg : [a + 16, a + 20, a + 23, a + 26][t]? = some (a + c_T t) := by
    have : t = 0 ∨ t = 1 ∨ t = 2 ∨ t = 3 := by omega
    rcases this with rfl | rfl | rfl | rfl <;> rfl
  have isl : k_is h (a + 11) 2 := Or.inr ⟨rfl, _, _, l1⟩
  refine k_ctr_of (eX11_transactionAt ok.2 (bX11_transactionAt_0 (fun z => absurd ((nI_ltI (b := 0) (by omega) (by omega)).mp z) (by omega)) (fun _ => bX11_transactionAt_4 hob rfl isl (c_size ok l1) ?_)))
  rintro _ _ ⟨hh, rfl⟩
  rw [hh]
  refine bX11_transactionAt_12 (fun _ => bX11_transactionAt_26 hob rfl isl (c_get ok l1 hg) ?_) (fun z => absurd ((nI_ltI (b := 4) (by omega) (by omega)).mpr ht) z)
  rintro _ _ ⟨hh, rfl⟩
  rw [hh]
  exact bX11_transactionAt_34 o1 ⟨_, rfl, rfl, rfl⟩
theorem c_trAtX (ok : k_ok G l) {a : Nat} {h : k_H} {M : s_M} {x : Int32} (hob : c_ob a h M) (hcl : c_cl a h) (hx : s_inB x 0 3 = false) : k_ctx (tX11_transactionAt G l) [vR (some a), vI x] h x_IO (fun h' => h' = k_sk h 1 6) := by
  obtain ⟨-, ⟨cap, l1⟩, -⟩ := hcl
  have isl : k_is h (a + 11) 2 := Or.inr ⟨rfl, _, _, l1⟩
  refine k_ctx_of (eX11_transactionAt ok.2 (bX11_transactionAt_0 (fun _ => bX11_transactionAt_15 ⟨rfl, rfl⟩) (fun c1 => bX11_transactionAt_4 hob rfl isl (c_size ok l1) ?_)))
  rintro _ _ ⟨hh, rfl⟩
  rw [hh]
  refine bX11_transactionAt_12 (fun c2 => ?_) (fun _ => bX11_transactionAt_15 ⟨rfl, rfl⟩)
  exfalso
  unfold s_inB at hx
  rw [decide_eq_true c1, Bool.true_and, decide_eq_false_iff_not, Classical.not_not] at hx
  have h1 := Int32.lt_iff_toInt_lt.mp hx
  have h2 := Int32.lt_iff_toInt_lt.mp c2
  have e1 : (3 : Int32).toInt = 3 := by decide
  have e2 : (nI [a + 16, a + 20, a + 23, a + 26].length).toInt = 4 := by
    show (nI 4).toInt = 4
    decide
  omega
theorem c_begin (ok : k_ok G l) {a N w : Nat} {B : Nat × Nat} {h : k_H} {M : s_M} {x : Int32} {once : Bool} (W : c_W a B h M N w) : k_ct (tX11_begin G l) [vR (some a), vI x, vI (kB once)] h (c_R a B (F_begin M x once) (fun _ => x_IO) (N + 1) w) := by
  obtain ⟨Q, S, PS, s, r, p, c⟩ := id W
  obtain ⟨r1, r2, r3, r4, r5, r6, r7⟩ := id r
  refine eX11_begin ok.2 ?_
  cases hin : s_inB x 0 3 with
  | false =>
    refine bX11_begin_0x (k_is_o r3) (c_trAtX ok r3 r4 hin) ?_
    rintro _ rfl
    have hF : F_begin M x once = (M, 1, 0) := by unfold F_begin; rw [if_pos hin]
    rw [hF]
    exact ⟨W_sk W, rfl⟩
  | true =>
    obtain ⟨t, ht, rfl, e9⟩ := s_in4 hin
    have hF : F_begin M (nI t) once = (g_tx M t ((true, once, g_n M, g_gen M, 0), [], []), 0, nI (g_n M)) := by
      unfold F_begin
      rw [hin, if_neg (by decide)]
      have : t_of (nI t) = t := e9
      rw [this]
    rw [hF]
    refine bX11_begin_0 (k_is_o r3) (c_trAt ok r3 r4 r1 ht) ?_
    rintro _ _ ⟨hh, rfl⟩
    rw [hh]
    obtain ⟨KS, L, WS, z, st, -⟩ := id s
    have o12 : ∃ fs, h.1 (a + c_T t) = some (k_o 12 fs) := by
      obtain ⟨CXf, b1, -⟩ := r1
      obtain ⟨RS, c, cR, kept, o1, -⟩ := b1 t ht
      exact ⟨_, o1⟩
    obtain ⟨fs12, o12⟩ := o12
    refine bX11_begin_5 r3 rfl (st_obj st) rfl rfl (k_is_o o12) (c_X_start ok (v := g_n M) (g := g_gen M) (once := once) r1 ht) ?_
    rintro h1 ⟨x1, m1⟩
    have hT := c_T_lt ht
    have nA : ∀ i, i < 16 → ¬ c_At a t (a + i) := fun i hi z => by rcases z with z | z | z <;> omega
    have nO : ∀ q ci fs, h.1 q = some (k_o ci fs) → ci ≠ 12 → ¬ c_At a t q := fun q ci fs hq hc z => by
      obtain ⟨CXf, b1, -⟩ := r1
      obtain ⟨RS, c, cR, kept, o1, ⟨c1, c2, c3⟩, -⟩ := b1 t ht
      rcases z with z | z | z
      · rw [z, o1] at hq; cases hq; exact hc rfl
      · rw [z, c1.1] at hq; cases hq
      · rw [z, c2.1] at hq; cases hq
    have s1 := sE_fr s m1 (by simp) (fun i h1 h2 => nA i (by omega)) (fun q ci fs hq hc => nO q ci fs hq (by rcases hc with e | e | e <;> rw [e] <;> decide))
    obtain ⟨KS1, L1, WS1, z1, st1, -⟩ := id s1
    have r31 := ob_fr r3 m1.1 (by simp) (nA 0 (by omega))
    refine bX11_begin_22 r31 rfl (st_obj st1) rfl ⟨⟨Q, S, PS, s1, ⟨x1, pa_fr r2 m1 (by simp) ⟨nA 6 (by omega), nA 7 (by omega)⟩ (fun q fs hq => nO q 8 fs hq (by decide)), r31, cl_fr r4 m1.1 (by simp) ⟨nA 10 (by omega), nA 11 (by omega), nA 12 (by omega)⟩, mk_fr r5 m1.1 (nA 15 (by omega)), dr_fr r6 m1.1 (by simp) (nA 13 (by omega)) (fun q fs hq => nO q 5 fs hq (by decide)), wa_fr r7 m1.1 (by simp) (nA 14 (by omega)) (fun q fs hq => nO q 13 fs hq (by decide))⟩, p, ?_⟩, rfl⟩
    have := co_mo c (mv_mono m1 (fun _ h => h) (fun _ h => h) (Nat.zero_le 1))
    rw [Nat.add_assoc] at this
    exact this
end CBG
end
section
/-! THE CLASS READS KEYS -/
/-- a transaction's rows move -/
theorem tx_nA {a t : Nat} (ht : t < 4) : ∀ i, i < 16 → ¬ c_At a t (a + i) := fun i hi z => by
  have := c_T_lt ht
  rcases z with z | z | z <;> omega
theorem tx_nO {a t ser w : Nat} {h : k_H} {X : Nat → s_X} (hX : c_TX a h X ser w) (ht : t < 4) : ∀ q ci fs, h.1 q = some (k_o ci fs) → ci ≠ 12 → ¬ c_At a t q := fun q ci fs hq hc z => by
  obtain ⟨CXf, b1, -⟩ := hX
  obtain ⟨RS, c, cR, kept, o1, ⟨c1, c2, c3⟩, -⟩ := b1 t ht
  rcases z with z | z | z
  · rw [z, o1] at hq; cases hq; exact hc rfl
  · rw [z, c1.1] at hq; cases hq
  · rw [z, c2.1] at hq; cases hq
theorem rs_tx {a o t w w' n S : Nat} {K : List Nat} {h h' : k_H} {M M' : s_M} {E : e_S} {Q : List k_K2} {PS : List k_PT} (s : c_sE a h E n Q S) (r : c_rs a h M Q w PS) (ht : t < 4) (m : k_mo a K (c_At a t) o h h') (hK : ∀ k ∈ K, k = 4) (x : c_TX a h' (g_X M') (g_ser M') w')
    (e : g_MK M' = g_MK M ∧ g_DS M' = g_DS M ∧ g_WT M' = g_WT M ∧ g_gen M' = g_gen M ∧ g_los M' = g_los M ∧ g_why M' = g_why M) : c_sE a h' E n Q S ∧ c_rs a h' M' Q w' PS := by
  obtain ⟨r1, r2, r3, r4, r5, r6, r7⟩ := r
  have nA := tx_nA (a := a) ht
  have nO := tx_nO r1 ht
  have nk : ∀ k, k ≠ 4 → k ∉ K := fun k h z => h (hK k z)
  obtain ⟨e1, e2, e3, e4, e5, e6⟩ := e
  refine ⟨sE_fr s m ⟨nk 3 (by decide), nk 6 (by decide), nk 7 (by decide), nk 10 (by decide), nk 11 (by decide)⟩ (fun i h1 h2 => nA i (by omega)) (fun q ci fs hq hc => nO q ci fs hq (by rcases hc with e | e | e <;> rw [e] <;> decide)), x, pa_fr r2 m ⟨nk 8 (by decide), nk 9 (by decide)⟩ ⟨nA 6 (by omega), nA 7 (by omega)⟩ (fun q fs hq => nO q 8 fs hq (by decide)), ?_, cl_fr r4 m.1 (nk 3 (by decide)) ⟨nA 10 (by omega), nA 11 (by omega), nA 12 (by omega)⟩, ?_, ?_, ?_⟩
  · have := ob_fr r3 m.1 (nk 14 (by decide)) (nA 0 (by omega))
    unfold c_ob at this ⊢
    rw [e1, e2, e4, e5, e6]
    exact this
  · rw [e1]; exact mk_fr r5 m.1 (nA 15 (by omega))
  · rw [e2]; exact dr_fr r6 m.1 (nk 5 (by decide)) (nA 13 (by omega)) (fun q fs hq => nO q 5 fs hq (by decide))
  · rw [e3]; exact wa_fr r7 m.1 (nk 13 (by decide)) (nA 14 (by omega)) (fun q fs hq => nO q 13 fs hq (by decide))
/-- the own cell changes -/
theorem cell_rs {a w n S : Nat} {h h' : k_H} {M : s_M} {E : e_S} {Q : List k_K2} {PS : List k_PT} (s : c_sE a h E n Q S) (r : c_rs a h M Q w PS) (z : Option Int32 × Bool) (e : h' = k_up h (a + 10) (o_cel z.1 z.2)) : c_sE a h' E n Q S ∧ c_rs a h' M Q w PS ∧ h'.1 (a + 10) = some (o_cel z.1 z.2) ∧ k_mo a [] (fun q => q = a + 10) 0 h h' := by
  obtain ⟨r1, r2, r3, r4, r5, r6, r7⟩ := r
  obtain ⟨⟨z0, l1⟩, ⟨cap, l2⟩, ys, cap2, l3⟩ := id r4
  have m : k_mo a [] (fun q => q = a + 10) 0 h h' := by rw [e]; exact mv_o l1 (Or.inr rfl)
  have nO : ∀ q ci fs, h.1 q = some (k_o ci fs) → ci ≠ 3 → ¬ (q = a + 10) := fun q ci fs hq hc z => by rw [z, l1] at hq; cases hq; exact hc rfl
  have es : h'.1 (a + 10) = some (o_cel z.1 z.2) := by rw [e]; exact k_up_self _ _ _
  refine ⟨sE_fr s m (by simp) (fun i h1 h2 z => by omega) (fun q ci fs hq hc => nO q ci fs hq (by rcases hc with e | e | e <;> rw [e] <;> decide)), ⟨TX_fr r1 m (by simp) (fun q ci fs hq hc => nO q ci fs hq (by rcases hc with e | e <;> rw [e] <;> decide)) (fun i h1 h2 z => by omega), pa_fr r2 m (by simp) ⟨by omega, by omega⟩ (fun q fs hq => nO q 8 fs hq (by decide)), ob_fr r3 m.1 (by simp) (by omega), ⟨⟨z, es⟩, ⟨cap, m.1 _ _ l2 (by omega) (fun ci fs e => by cases e)⟩, ys, cap2, m.1 _ _ l3 (by omega) (fun ci fs e => by cases e)⟩, mk_fr r5 m.1 (by omega), dr_fr r6 m.1 (by simp) (by omega) (fun q fs hq => nO q 5 fs hq (by decide)), wa_fr r7 m.1 (by simp) (by omega) (fun q fs hq => nO q 13 fs hq (by decide))⟩, es, m⟩
theorem tx_obj {a t ser w : Nat} {h : k_H} {X : Nat → s_X} (hX : c_TX a h X ser w) (ht : t < 4) : ∃ kept : Nat, h.1 (a + c_T t) = some (k_o 12 [vR (some (a + (c_T t + 1))), vR (some (a + (c_T t + 2))), vI (kB (X t).1.1), vI (kB (X t).1.2.1), vI (nI (X t).1.2.2.1), vI (nI (X t).1.2.2.2.1), vI (c_dn (X t).1.2.2.2.2), vI (nI kept)]) ∧ ((X t).1.1 = true → kept = (X t).2.1.length) := by
  obtain ⟨CXf, b1, -⟩ := hX
  obtain ⟨RS, c, cR, kept, o1, -, d⟩ := b1 t ht
  exact ⟨kept, o1, fun e => (d e).1.2⟩
section CRD
variable {G : k_G} {l : Launch}
theorem c_begun (ok : k_ok G l) {a t ser w : Nat} {h : k_H} {X : Nat → s_X} (hX : c_TX a h X ser w) (ht : t < 4) (hb : (X t).1.1 = true) : k_ctv (tX11_requireBegun G l) [vR (some (a + c_T t))] h (fun h' => h' = h) := by
  obtain ⟨kept, o, -⟩ := tx_obj hX ht
  refine k_ctv_of (eX11_requireBegun ok.2 (bX11_requireBegun_0 o rfl (fun _ => bX11_requireBegun_18 ⟨rfl, rfl⟩) (fun z => absurd (kB_0.mp z) (by rw [hb]; decide))))
theorem c_begunX (ok : k_ok G l) {a t ser w : Nat} {h : k_H} {X : Nat → s_X} (hX : c_TX a h X ser w) (ht : t < 4) (hb : (X t).1.1 = false) : k_ctx (tX11_requireBegun G l) [vR (some (a + c_T t))] h x_IS (fun h' => h' = k_sk h 1 6) := by
  obtain ⟨kept, o, -⟩ := tx_obj hX ht
  refine k_ctx_of (eX11_requireBegun ok.2 (bX11_requireBegun_0 o rfl (fun z => absurd (kB_n0.mp z) (by rw [hb]; decide)) (fun _ => bX11_requireBegun_7 ⟨rfl, rfl⟩)))
theorem c_room (ok : k_ok G l) {a t ser w : Nat} {h : k_H} {X : Nat → s_X} (hX : c_TX a h X ser w) (ht : t < 4) (hb : (X t).1.1 = true) (hl : (X t).2.1.length < 12) : k_ctv (tX11_requireRoom G l) [vR (some (a + c_T t))] h (fun h' => h' = h) := by
  obtain ⟨kept, o, hk⟩ := tx_obj hX ht
  refine k_ctv_of (eX11_requireRoom ok.2 (bX11_requireRoom_0 (c_begun ok hX ht hb) ?_))
  rintro _ rfl
  rw [hk hb] at o
  exact bX11_requireRoom_4 o rfl (fun _ => bX11_requireRoom_24 ⟨rfl, rfl⟩) (fun z => absurd ((nI_ltI (b := 12) (by omega) (by omega)).mpr hl) z)
theorem c_roomX (ok : k_ok G l) {a t ser w : Nat} {h : k_H} {X : Nat → s_X} (hX : c_TX a h X ser w) (ht : t < 4) (hl9 : (X t).2.1.length < 2 ^ 20) (hb : (!(X t).1.1 || decide (12 ≤ (X t).2.1.length)) = true) : k_ctx (tX11_requireRoom G l) [vR (some (a + c_T t))] h x_IS (fun h' => h' = k_sk h 1 6) := by
  obtain ⟨kept, o, hk⟩ := tx_obj hX ht
  cases hbb : (X t).1.1 with
  | false =>
    refine k_ctx_of (eX11_requireRoom ok.2 (bX11_requireRoom_0x (c_begunX ok hX ht hbb) ?_))
    rintro _ rfl
    exact ⟨rfl, rfl⟩
  | true =>
    rw [hbb, Bool.not_true, Bool.false_or, decide_eq_true_eq] at hb
    refine k_ctx_of (eX11_requireRoom ok.2 (bX11_requireRoom_0 (c_begun ok hX ht hbb) ?_))
    rintro _ rfl
    rw [hk hbb] at o
    exact bX11_requireRoom_4 o rfl (fun z => absurd ((nI_ltI (b := 12) (by omega) (by omega)).mp z) (by omega)) (fun _ => bX11_requireRoom_13 ⟨rfl, rfl⟩)
theorem c_X_look (ok : k_ok G l) {a t ser w c : Nat} {h : k_H} {X : Nat → s_X} {x : Option Nat} {o : Option Int32} {z : Option Int32 × Bool} (hX : c_TX a h X ser w) (ht : t < 4) (hb : (X t).1.1 = true) (hC : h.1 (a + 10) = some (o_cel z.1 z.2)) (hc : c < 2 ^ 62) (hx : (x = none ∧ o = none) ∨ (∃ a k v b e, x = some a ∧ h.1 a = some (o_ent k v b e o))) :
    k_ctv (tX9_look G l) [vR (some (a + c_T t)), vR (some (a + 10)), vJ (lN c), vR x] h (fun h' => h' = k_up h (a + 10) (o_cel (s_see c (X t).2.1 (o, false)).1 (s_see c (X t).2.1 (o, false)).2)) := by
  obtain ⟨CXf, b1, -⟩ := hX
  obtain ⟨RS, cap, cR, kept, o1, ⟨c1, c2, c3⟩, d⟩ := b1 t ht
  obtain ⟨h', tr, e⟩ := c_X9_look ok o1 hC c1 hc hx
  refine ⟨h', tr, ?_⟩
  rw [e, see_mc, ← (d hb).1.1]
theorem c_readCounting (ok : k_ok G l) {a t N w S c : Nat} {B : Nat × Nat} {h : k_H} {M : s_M} {Q : List k_K2} {PS : List k_PT} (s : c_sE a h (g_E M) (g_n M) Q S) (r : c_rs a h M Q w PS) (co : c_co a B h N) (ht : t < 4) (hb : (g_X M t).1.1 = true) (hc : c < 2 ^ 60) (hra : (g_X M t).1.2.2.1 < 2 ^ 31) (hl : (g_X M t).2.2.length < 2048) :
    k_cti (tX11_readCounting G l) [vR (some a), vR (some (a + c_T t)), vJ (lN c)] h (fun h' v => v = o_told (g_see M t c).1 ∧ c_sE a h' (g_E M) (g_n M) Q S ∧ c_rs a h' (g_rk M t c) Q w PS ∧ c_co a B h' (N + 1)) := by
  obtain ⟨r1, r2, r3, r4, r5, r6, r7⟩ := id r
  obtain ⟨kept, o, -⟩ := tx_obj r1 ht
  obtain ⟨KS, L, WS, z, st, -⟩ := id s
  obtain ⟨⟨z0, l1⟩, -⟩ := id r4
  refine k_cti_of (eX11_readCounting ok.2 (bX11_readCounting_0 r3 rfl rfl o rfl (k_is_o (st_obj st)) (c_E_entryIn ok s (by omega) hra) ?_))
  rintro _ x ⟨hh, hx⟩
  rw [hh]
  refine bX11_readCounting_18 (k_is_o o) (c_X_look ok r1 ht hb l1 (by omega) hx) ?_
  rintro h1 e1
  obtain ⟨s1, q1, l11, m1⟩ := cell_rs s r _ e1
  have co1 := co_mo co m1
  obtain ⟨r11, r12, r13, r14, r15, r16, r17⟩ := id q1
  obtain ⟨kept1, o1, -⟩ := tx_obj r11 ht
  refine bX11_readCounting_21 (k_is_o o1) (c_X_putDownKey ok r11 ht hb hc hl) ?_
  rintro h2 ⟨x2, m2⟩
  obtain ⟨s2, q2⟩ := rs_tx (M' := g_rk M t c) s1 q1 ht m2 (by simp) x2 ⟨rfl, rfl, rfl, rfl, rfl, rfl⟩
  have co2 := co_mo co1 m2
  have l12 : h2.1 (a + 10) = some (o_cel (g_see M t c).1 (g_see M t c).2) := m2.1 _ _ l11 (tx_nA ht 10 (by omega)) (fun _ _ _ => List.not_mem_nil)
  refine bX11_readCounting_26 q2.2.2.1 rfl (k_is_o l12) (c_X0_told ok l12) ?_
  rintro _ _ ⟨hh, rfl⟩
  rw [hh]
  exact bX11_readCounting_33 ⟨_, rfl, o_told_eq _, s2, q2, co2⟩
end CRD
end
section
/-! THE CLASS LISTS WHAT A TRANSACTION SEES -/
theorem co_le {a T T' : Nat} {B : Nat × Nat} {h : k_H} (c : c_co a B h T) (hT : T ≤ T') : c_co a B h T' := by
  obtain ⟨c1, c2, c3⟩ := c
  exact ⟨by omega, by omega, c3⟩
theorem lst_rs {a o w cap : Nat} {h h' : k_H} {M : s_M} {Q : List k_K2} {PS : List k_PT} {ys : List Nat} (r : c_rs a h M Q w PS) (m : k_mo a [] (fun q => q = a + 12) o h h') (e : h'.1 (a + 12) = some (k_l ys cap)) : c_rs a h' M Q w PS := by
  obtain ⟨r1, r2, r3, r4, r5, r6, r7⟩ := r
  obtain ⟨⟨z0, l1⟩, ⟨cap1, l2⟩, ys2, cap2, l3⟩ := id r4
  have nO : ∀ q ci fs, h.1 q = some (k_o ci fs) → ¬ (q = a + 12) := fun q ci fs hq z => by rw [z, l3] at hq; cases hq
  exact ⟨TX_fr r1 m (by simp) (fun q ci fs hq _ => nO q ci fs hq) (fun i h1 h2 z => by omega), pa_fr r2 m (by simp) ⟨by omega, by omega⟩ (fun q fs hq => nO q 8 fs hq), ob_fr r3 m.1 (by simp) (by omega), ⟨⟨z0, m.1 _ _ l1 (by omega) (fun ci fs e => List.not_mem_nil)⟩, ⟨cap1, m.1 _ _ l2 (by omega) (fun ci fs e => by cases e)⟩, ys, cap, e⟩, mk_fr r5 m.1 (by omega), dr_fr r6 m.1 (by simp) (by omega) (fun q fs hq => nO q 5 fs hq), wa_fr r7 m.1 (by simp) (by omega) (fun q fs hq => nO q 13 fs hq)⟩
theorem lst_st {a o n cap : Nat} {h h' : k_H} {KS : List k_K2} {L : List k_E4} {WS : List k_SP} {z : Option Int32 × Bool} {ys : List Nat} (st : c_st a h KS L WS n z) (hl : h.1 (a + 12) = some (k_l ys cap)) (m : k_mo a [] (fun q => q = a + 12) o h h') : c_st a h' KS L WS n z :=
  st_fr st m (by simp) (fun i h1 h2 z => by omega) (fun q ci fs hq hc z => by rw [z, hl] at hq; cases hq)
theorem cel_st {a n : Nat} {h : k_H} {KS : List k_K2} {L : List k_E4} {WS : List k_SP} {z z0 z1 : Option Int32 × Bool} (st : c_st a h KS L WS n z) (hl : h.1 (a + 10) = some (o_cel z0.1 z0.2)) : c_st a (k_up h (a + 10) (o_cel z1.1 z1.2)) KS L WS n z :=
  st_fr st (mv_o (a := a) (K := []) (A := fun q => q = a + 10) hl (Or.inr rfl)) (by simp) (fun i h1 h2 z => by omega) (fun q ci fs hq hc z => by rw [z, hl] at hq; cases hq; rcases hc with e | e | e <;> cases e)
theorem rE_flt2 {KS : List k_K2} {L : List k_E4} {WS : List k_SP} {E : e_S} {x : Nat} (r : c_rE KS L WS E x) (s : KS.Pairwise (fun x y => x.1 < y.1)) {p : Nat → Bool} (hp : ∀ c, p c = true → ∃ k, (c, k) ∈ E.1) : (KS.filter (fun y => p y.1)).map (fun y => y.1) = (E.1.filter (fun y => p y.1)).map (fun y => y.1) := by
  obtain ⟨⟨a1, a2, a3⟩, ⟨b1, b2⟩, b3, b4, b5⟩ := r
  refine srt_ext (List.pairwise_map.mpr (s.sublist List.filter_sublist)) (List.pairwise_map.mpr (b5.sublist List.filter_sublist)) fun c => ?_
  rw [List.mem_map, List.mem_map]
  constructor
  · rintro ⟨y, hy, rfl⟩
    obtain ⟨hy1, hy2⟩ := List.mem_filter.mp hy
    obtain ⟨k, hk⟩ := hp _ hy2
    exact ⟨_, List.mem_filter.mpr ⟨hk, hy2⟩, rfl⟩
  · rintro ⟨y, hy, rfl⟩
    obtain ⟨hy1, hy2⟩ := List.mem_filter.mp hy
    obtain ⟨k, hk⟩ := b1 y hy1
    exact ⟨_, List.mem_filter.mpr ⟨hk, hy2⟩, rfl⟩
/-- what is changed by name is named -/
def g_nm (M : s_M) : Prop := ∀ t, t < 4 → ∀ y ∈ (g_X M t).2.1, y.2.1 = 1 ∨ y.2.1 = 6 ∨ (y.2.2.2.1 = y.2.2.1 + 1 ∧ ∃ k, (y.2.2.1, k) ∈ (g_E M).1)
theorem see_named {c : Nat} {P : Prop} : ∀ (CS : List k_CH) (z : Option Int32 × Bool), (∀ y ∈ CS, y.2.1 = 1 ∨ y.2.1 = 6 ∨ (s_cov y c = true → P)) → (z.1.isSome = true → P) → (s_see c CS z).1.isSome = true → P := by
  intro CS
  induction CS with
  | nil => intro z _ hz h; exact hz h
  | cons y CS ih =>
    intro z hy hz h
    refine ih _ (fun x hx => hy x (List.mem_cons_of_mem _ hx)) ?_ h
    intro h2
    replace h2 : (if s_cov y c = true then (s_apO y.2.1 y.2.2.2.2.1 0 z.1, s_apS y.2.1 z.2) else z).1.isSome = true := h2
    by_cases c1 : s_cov y c = true
    · rw [if_pos c1] at h2
      rcases hy y List.mem_cons_self with e | e | e
      · rw [e] at h2; unfold s_apO at h2; rw [if_pos rfl] at h2; cases h2
      · exfalso
        unfold s_cov s_ord at c1
        rw [e] at c1
        simp at c1
      · exact e c1
    · rw [if_neg c1] at h2; exact hz h2
theorem vis_named {M : s_M} {t c : Nat} (hin : r_in (g_E M).1 (g_E M).2.1) (hm : g_nm M) (ht : t < 4) (h : s_vis (g_see M t c) = true) : ∃ k, (c, k) ∈ (g_E M).1 := by
  unfold s_vis at h
  rw [Bool.and_eq_true] at h
  refine see_named (g_X M t).2.1 _ (fun y hy => ?_) (fun h2 => ?_) h.1
  · rcases hm t ht y hy with e | e | ⟨e1, k, e2⟩
    · exact Or.inl e
    · exact Or.inr (Or.inl e)
    · refine Or.inr (Or.inr fun hc => ⟨k, ?_⟩)
      unfold s_cov at hc
      simp only [Bool.and_eq_true, decide_eq_true_eq] at hc
      have : c = y.2.2.1 := by omega
      rw [this]; exact e2
  · obtain ⟨v, x, hx, e1, e2⟩ := val_has h2
    obtain ⟨k, hk⟩ := hin x hx
    rw [e1] at hk
    exact ⟨k, hk⟩
section CSN
variable {G : k_G} {l : Launch}
theorem c_listSeen (ok : k_ok G l) {a t lo hi T w S : Nat} {B : Nat × Nat} {h : k_H} {M : s_M} {Q : List k_K2} {PS : List k_PT} (s : c_sE a h (g_E M) (g_n M) Q S) (r : c_rs a h M Q w PS) (co : c_co a B h T) (ht : t < 4) (hb : (g_X M t).1.1 = true) (hra : (g_X M t).1.2.2.1 < 2 ^ 31) (hlo : lo < 2 ^ 62) (hhi : hi < 2 ^ 62) (hlim : e_lim (g_E M)) (hnm : g_nm M) :
    k_ctv (tX11_listSeen G l) [vR (some a), vR (some (a + c_T t)), vJ (lN lo), vJ (lN hi)] h (fun h' => c_sE a h' (g_E M) (g_n M) Q S ∧ c_rs a h' M Q w PS ∧ c_co a B h' T ∧ ∃ (X : List k_K2) (cap : Nat), h'.1 (a + 12) = some (k_l (X.map (fun x => x.2)) cap) ∧ X.map (fun x => x.1) = (g_rng M t lo hi).map (fun x => x.1) ∧ ∀ y ∈ X, y.1 < 1331000000000 ∧ (∃ (xs : List Nat) (c2 : Nat), h'.1 (a + 2) = some (k_l xs c2) ∧ y.2 ∈ xs) ∧ ∃ f, h'.1 y.2 = some (k_o 7 [vJ (lN y.1), f])) := by
  obtain ⟨KS, L, WS, z, st, rE, q, e⟩ := s
  obtain ⟨b1, b2, b3, b4⟩ := sE_lim st rE q.2 hlim (e_le_refl _)
  obtain ⟨-, -, r3, ⟨-, -, ys0, cap0, l3⟩, -⟩ := id r
  refine k_ctv_of (eX11_listSeen ok.2 (bX11_listSeen_0 r3 rfl (Or.inr ⟨rfl, _, _, l3⟩) (c_clear ok l3) ?_))
  rintro h1 hh
  have m0 : k_mo a [] (fun q => q = a + 12) 0 h h1 := by rw [hh]; exact mv_lu l3 (by omega) rfl
  have e0 : h1.1 (a + 12) = some (k_l [] cap0) := by rw [hh]; exact k_up_self _ _ _
  have st1 := lst_st st l3 m0
  have r1 := lst_rs r m0 e0
  have co1 := co_mo co m0
  obtain ⟨-, -, o3, -⟩ := id r1
  obtain ⟨cK, cW, cH, xs, ka, ⟨s1, s2, s3, s4, s5⟩, ⟨t1, t2, t3, t4⟩, ⟨g1, g2, g3⟩, tW, tn, ta, tw⟩ := id st1
  refine bX11_listSeen_7 o3 rfl (k_is_o s1) (c_X8_placeFrom ok s1 s2 t1 hlo) ?_
  rintro h1' v ⟨hh', rfl⟩
  rw [hh']
  refine bX11_listSeen_15 ?_
  have key : ∀ (d i : Nat) (hh : k_H) (Y : List k_K2) (c : Nat), KS.length - i = d → i ≤ KS.length → Y.length ≤ i → (∀ y ∈ Y, y ∈ KS) → Y ++ r_rem hi (fun c => s_vis (g_see M t c)) KS i = r_flt lo hi (fun c => s_vis (g_see M t c)) KS →
      c_st a hh KS L WS (g_n M) z → c_rs a hh M Q w PS → c_co a B hh T → hh.1 (a + 12) = some (k_l (Y.map (fun x => x.2)) c) →
      k_X (jX11_listSeen G l h) hh 17 [(0, vR (some a)), (1, vR (some (a + c_T t))), (4, vJ (lN hi)), (6, vI (nI i))] [] (q_v (fun h' => c_sE a h' (g_E M) (g_n M) Q S ∧ c_rs a h' M Q w PS ∧ c_co a B h' T ∧ ∃ (X : List k_K2) (cap : Nat), h'.1 (a + 12) = some (k_l (X.map (fun x => x.2)) cap) ∧ X.map (fun x => x.1) = (g_rng M t lo hi).map (fun x => x.1) ∧ ∀ y ∈ X, y.1 < 1331000000000 ∧ (∃ (xs : List Nat) (c2 : Nat), h'.1 (a + 2) = some (k_l xs c2) ∧ y.2 ∈ xs) ∧ ∃ f, h'.1 y.2 = some (k_o 7 [vJ (lN y.1), f]))) := by
    have fin : ∀ (hh : k_H) (Y : List k_K2) (c : Nat), Y = r_flt lo hi (fun c => s_vis (g_see M t c)) KS → c_st a hh KS L WS (g_n M) z → c_rs a hh M Q w PS → c_co a B hh T → hh.1 (a + 12) = some (k_l (Y.map (fun x => x.2)) c) →
        q_v (fun h' => c_sE a h' (g_E M) (g_n M) Q S ∧ c_rs a h' M Q w PS ∧ c_co a B h' T ∧ ∃ (X : List k_K2) (cap : Nat), h'.1 (a + 12) = some (k_l (X.map (fun x => x.2)) cap) ∧ X.map (fun x => x.1) = (g_rng M t lo hi).map (fun x => x.1) ∧ ∀ y ∈ X, y.1 < 1331000000000 ∧ (∃ (xs : List Nat) (c2 : Nat), h'.1 (a + 2) = some (k_l xs c2) ∧ y.2 ∈ xs) ∧ ∃ f, h'.1 y.2 = some (k_o 7 [vJ (lN y.1), f])) hh (.inl none) := by
      intro hh Y c hY st2 r2 co2 e2
      refine ⟨rfl, ⟨KS, L, WS, z, st2, rE, q, e⟩, r2, co2, Y, c, e2, ?_, fun y hy => ?_⟩
      · rw [hY]
        have := rE_flt2 rE b4 (p := fun c => decide (lo ≤ c) && decide (c < hi) && s_vis (g_see M t c)) (fun c hc => vis_named rE.2.2.2.1 hnm ht (by simp only [Bool.and_eq_true] at hc; exact hc.2))
        exact this
      · obtain ⟨cK, cW, cH, xs, ka, ⟨-, s2', -⟩, ⟨t1, t2, t3, t4⟩, -⟩ := id st2
        rw [hY] at hy
        have hm := (r_flt_of hy).1
        exact ⟨(t1.1 y hm).1, ⟨_, _, s2', List.mem_map.mpr ⟨y, hm, rfl⟩⟩, _, (t1.1 y hm).2⟩
    intro d
    induction d with
    | zero =>
      intro i hh Y c hd hi9 hy hys hr st2 r2 co2 e2
      obtain ⟨cK, cW, cH, xs, ka, ⟨s1, s2, s3, s4, s5⟩, ⟨t1, t2, t3, t4⟩, ⟨g1, g2, g3⟩, tW, tn, ta, tw⟩ := id st2
      obtain ⟨-, -, o3, -⟩ := id r2
      refine bX11_listSeen_17 o3 rfl s1 rfl (Or.inr ⟨rfl, _, _, s2⟩) (c_size ok s2) ?_
      rintro h2 v ⟨hh2, rfl⟩
      rw [hh2, List.length_map]
      refine bX11_listSeen_29 (fun _ => ?_) (fun c1 => absurd (nI_le (by omega) (by omega)) c1)
      refine bX11_listSeen_119 (fin hh Y c ?_ st2 r2 co2 e2)
      rw [rs_end (by omega), List.append_nil] at hr
      exact hr
    | succ d ih =>
      intro i hh Y c hd hi9 hy hys hr st2 r2 co2 e2
      obtain ⟨cK, cW, cH, xs, ka, ⟨s1, s2, s3, s4, s5⟩, ⟨t1, t2, t3, t4⟩, ⟨g1, g2, g3⟩, tW, tn, ta, tw⟩ := id st2
      obtain ⟨x1, -, o3, ⟨⟨zc, lc⟩, -, -⟩, -⟩ := id r2
      have hlt : i < KS.length := by omega
      obtain ⟨x, hx⟩ : ∃ x, KS[i]? = some x := ⟨_, List.getElem?_eq_getElem hlt⟩
      have hx2 : (KS.map (fun x => x.2))[i]? = some x.2 := by rw [List.getElem?_map, hx]; rfl
      have hxm := List.mem_of_getElem? hx
      have hmem := t1.1 x hxm
      refine bX11_listSeen_17 o3 rfl s1 rfl (Or.inr ⟨rfl, _, _, s2⟩) (c_size ok s2) ?_
      rintro h2 v ⟨hh2, rfl⟩
      rw [hh2, List.length_map]
      refine bX11_listSeen_29 (fun c1 => absurd c1 (nI_ge hlt (by omega))) (fun _ => ?_)
      refine bX11_listSeen_32 o3 rfl s1 rfl (Or.inr ⟨rfl, _, _, s2⟩) (c_get ok s2 hx2) ?_
      rintro h2 v ⟨hh2, rfl⟩
      rw [hh2]
      refine bX11_listSeen_44 hmem.2 rfl (fun c1 => ?_) (fun c1 => ?_)
      · have c2 := (lX_lt (by omega) hhi).mp c1
        obtain ⟨kept, o12, -⟩ := tx_obj x1 ht
        refine bX11_listSeen_61 o3 rfl hmem.2 rfl o12 rfl (c_X4_entryIn ok hmem.2 t3 (fun x hx => by have := g1 x hx; omega) hra) ?_
        rintro h2 v ⟨hh2, rfl⟩
        rw [hh2]
        refine bX11_listSeen_80 (k_is_o o12) (c_X_look ok x1 ht hb lc (by omega) (look_ok t3 x.1 (g_X M t).1.2.2.1)) ?_
        rintro h2 hh2
        have m2 : k_mo a [] (fun q => q = a + 10) 0 hh h2 := by rw [hh2]; exact mv_o lc (Or.inr rfl)
        have st3 : c_st a h2 KS L WS (g_n M) z := by rw [hh2]; exact cel_st st2 lc
        obtain ⟨-, r5, l11, -⟩ := cell_rs ⟨KS, L, WS, z, st2, rE, q, e⟩ r2 _ hh2
        have co3 := co_mo co2 m2
        have e3 : h2.1 (a + 12) = some (k_l (Y.map (fun x => x.2)) c) := m2.1 _ _ e2 (by omega) (fun ci fs e => by cases e)
        have hsee : s_see x.1 (g_X M t).2.1 (r_val x.1 (g_X M t).1.2.2.1 L, false) = g_see M t x.1 := by unfold g_see; rw [rE.1.1]
        rw [hsee] at l11
        obtain ⟨-, -, o5, -⟩ := id r5
        have skip : s_vis (g_see M t x.1) = false → k_X (jX11_listSeen G l h) h2 113 [(0, vR (some a)), (1, vR (some (a + c_T t))), (4, vJ (lN hi)), (6, vI (nI i))] [] (q_v (fun h' => c_sE a h' (g_E M) (g_n M) Q S ∧ c_rs a h' M Q w PS ∧ c_co a B h' T ∧ ∃ (X : List k_K2) (cap : Nat), h'.1 (a + 12) = some (k_l (X.map (fun x => x.2)) cap) ∧ X.map (fun x => x.1) = (g_rng M t lo hi).map (fun x => x.1) ∧ ∀ y ∈ X, y.1 < 1331000000000 ∧ (∃ (xs : List Nat) (c2 : Nat), h'.1 (a + 2) = some (k_l xs c2) ∧ y.2 ∈ xs) ∧ ∃ f, h'.1 y.2 = some (k_o 7 [vJ (lN y.1), f]))) := fun hv => by
          refine bX11_listSeen_113 ?_
          rw [nI_1]
          exact ih (i + 1) h2 Y c (by omega) (by omega) (by omega) hys (by rw [← hr, rs_skip hx hv]) st3 r5 co3 e3
        refine bX11_listSeen_83 o5 rfl l11 rfl (fun c3 => ?_) (fun c3 => ?_)
        · rw [kB_0] at c3
          exact skip (by unfold s_vis; rw [c3]; rfl)
        · rw [kB_n0] at c3
          refine bX11_listSeen_93 o5 rfl l11 rfl (fun c4 => ?_) (fun c4 => ?_)
          · rw [kB_n0] at c4
            exact skip (by unfold s_vis; rw [c4, Bool.not_true, Bool.and_false])
          · rw [kB_0] at c4
            have hv : s_vis (g_see M t x.1) = true := by unfold s_vis; rw [c3, c4]; rfl
            obtain ⟨cK3, cW3, cH3, xs3, ka3, -, ⟨u1, u2, u3, u4⟩, -, -, -, -, uw⟩ := id st3
            refine bX11_listSeen_103 o5 rfl (Or.inr ⟨rfl, _, _, e3⟩) (c_add ok uw e3 (by rw [List.length_map]; omega) (fun z hz => ?_) (el_key (u1.1 x hxm).2)) ?_
            · obtain ⟨y, hy1, rfl⟩ := List.mem_map.mp hz
              exact el_key (u1.1 y (hys y hy1)).2
            rintro h3 v ⟨hh3, rfl⟩
            have m3 : k_mo a [] (fun q => q = a + 12) 0 h2 h3 := by rw [hh3]; exact mv_gr e3 (by omega) rfl (by rw [List.length_map]; show _ ≤ 20000; omega)
            obtain ⟨cap3, e4⟩ := gr_at h2 (a + 12) (Y.map (fun x => x.2) ++ [x.2]) (Y.map (fun x => x.2)).length c
            rw [← hh3] at e4
            refine bX11_listSeen_112 (bX11_listSeen_113 ?_)
            rw [nI_1]
            refine ih (i + 1) h3 (Y ++ [x]) cap3 (by omega) (by omega) (by rw [List.length_append, List.length_singleton]; omega) (fun y hy => ?_) ?_ (lst_st st3 e3 m3) (lst_rs r5 m3 e4) (co_mo co3 m3) (by rw [e4, List.map_append]; rfl)
            · rcases List.mem_append.mp hy with hy | hy
              · exact hys y hy
              · rw [List.mem_singleton.mp hy]; exact hxm
            · rw [← hr, rs_take hx c2 hv, List.append_assoc]
              rfl
      · have c2 : ¬ x.1 < hi := fun z => c1 ((lX_lt (by omega) hhi).mpr z)
        refine bX11_listSeen_60 (fin hh Y c ?_ st2 r2 co2 e2)
        rw [rs_stop b4 hx (by omega), List.append_nil] at hr
        exact hr
  exact key _ (r_pl lo KS) h1 [] cap0 rfl (r_pl_le _ _) (Nat.zero_le _) (fun y hy => by cases hy) (by rw [List.nil_append, rs_start b4]) st1 r1 co1 e0
end CSN
end
section
/-! THE CLASS'S get, range, rangeAt -/
def x_3 (k : Nat) : String := if k = 1 then x_IO else if k = 2 then x_IA else x_IS
theorem R_x {a N w k : Nat} {B : Nat × Nat} {h : k_H} {M : s_M} {R : s_M × Nat × Int32} {X : Nat → String} (W : c_W a B h M N w) (hF : R = (M, k, 0)) (hk : k ≠ 0) : c_R a B R X (N + 1) w (k_sk h 1 6) (.inr (X k)) := by
  rw [hF]
  refine ⟨W_sk W, ?_⟩
  show _ = if k = 0 then _ else _
  rw [if_neg hk]
theorem R_ok {a N w : Nat} {B : Nat × Nat} {h : k_H} {M : s_M} {v : Int32} {R : s_M × Nat × Int32} {X : Nat → String} (W : c_W a B h M N w) (hF : R = (M, 0, v)) : c_R a B R X N w h (.inl (some (vI v))) := by
  rw [hF]
  exact ⟨W, rfl⟩
theorem W_le {a N N' w : Nat} {B : Nat × Nat} {h : k_H} {M : s_M} (W : c_W a B h M N w) (hN : N ≤ N') : c_W a B h M N' w := by
  obtain ⟨Q, S, PS, s, r, p, c⟩ := W
  exact ⟨Q, S, PS, s, r, p, co_le c (by omega)⟩
theorem g_rdg_self (M : s_M) (t : Nat) : g_rdg M t (g_X M t).2.2 = M := by
  show (M.1, M.2.1, X_up (g_X M) t (g_X M t), M.2.2.2) = M
  rw [X_up_self]
theorem sE_n {a n S : Nat} {h : k_H} {E : e_S} {Q : List k_K2} (s : c_sE a h E n Q S) : n ≤ 9000 ∧ (∀ y ∈ E.1, y.1 < 1331000000000) ∧ E.1.Pairwise (fun x y => x.1 < y.1) ∧ r_in E.1 E.2.1 := by
  obtain ⟨KS, L, WS, z, st, rE, q, e⟩ := s
  obtain ⟨cK, cW, cH, xs, ka, -, ⟨t1, t2, t3, t4⟩, -, tW, tn, ta, tw⟩ := id st
  exact ⟨tn, fun y hy => by obtain ⟨k, hk⟩ := rE.2.1.1 y hy; exact (t1.1 _ hk).1, rE.2.2.2.2, rE.2.2.2.1⟩
theorem sE_obj {a n S : Nat} {h : k_H} {E : e_S} {Q : List k_K2} (s : c_sE a h E n Q S) : ∃ f0 f1 f2 f3 f4 f5, h.1 (a + 1) = some (k_o 11 [f0, f1, f2, f3, f4, f5, vI (nI n)]) := by
  obtain ⟨KS, L, WS, z, st, rE, q, e⟩ := s
  exact ⟨_, _, _, _, _, _, st_obj st⟩
theorem s_hi_la {a b : Int32} (ha : s_na a) (hb : s_na b) : (s_hi a b = s_la a b + 1 ∨ (s_hi a b = 1331000000000 ∧ s_la a b + 1 = 1331000000001)) ∧ s_hi a b ≤ 1331000000000 ∧ s_lo a b < s_hi a b ∧ s_lo a b < 1331000000000 := by
  have h1 := s_dg_lt ha
  have h2 := s_dg_lt hb
  have h3 : s_dg 10000 = 0 := s_dg_none
  unfold s_la s_hi s_lo s_cd
  rw [h3]
  by_cases c : a = 10000
  · rw [if_pos c, if_pos c, if_pos c]; omega
  · rw [if_neg c, if_neg c, if_neg c]
    by_cases d : b = 10000
    · rw [if_pos d, d, h3]; omega
    · rw [if_neg d]; omega
theorem rng_hi {M : s_M} {t lo hi him : Nat} (hE : ∀ y ∈ (g_E M).1, y.1 < 1331000000000) (hh : hi = him ∨ (hi = 1331000000000 ∧ him = 1331000000001)) : g_rng M t lo hi = g_rng M t lo him := by
  unfold g_rng r_flt
  refine List.filter_congr fun y hy => ?_
  have := hE y hy
  rw [decide_eq_decide.mpr (show y.1 < hi ↔ y.1 < him by omega)]
theorem nI_ofN {x : Int32} (h : 0 ≤ x.toInt) : x = nI x.toInt.toNat := by
  apply Int32.toInt_inj.mp
  rw [nI_toInt (by have := Int32.toInt_lt x; omega)]
  omega
section CGT
variable {G : k_G} {l : Launch}
theorem C_get (ok : k_ok G l) {a N w : Nat} {B : Nat × Nat} {h : k_H} {M : s_M} {x a1 b1 c1 : Int32} {counts : Bool} (W : c_W a B h M N w) (hra : ∀ t, t < 4 → (g_X M t).1.2.2.1 ≤ g_n M) (hrd : ∀ t, t < 4 → (g_X M t).2.2.length < 2048) :
    k_ct (tX11_get G l) [vR (some a), vI x, vI a1, vI b1, vI c1, vI (kB counts)] h (c_R a B (F_get M x a1 b1 c1 counts) x_3 (N + 1) w) := by
  obtain ⟨Q, S, PS, s, r, p, co⟩ := id W
  obtain ⟨r1, r2, r3, r4, r5, r6, r7⟩ := id r
  refine eX11_get ok.2 ?_
  cases hin : s_inB x 0 3 with
  | false =>
    refine bX11_get_0x (k_is_o r3) (c_trAtX ok r3 r4 hin) ?_
    rintro _ rfl
    exact R_x (k := 1) W (by unfold F_get; rw [if_pos hin]) (by decide)
  | true =>
    obtain ⟨t, ht, rfl, e9⟩ := s_in4 hin
    have e9 : t_of (nI t) = t := e9
    refine bX11_get_0 (k_is_o r3) (c_trAt ok r3 r4 r1 ht) ?_
    rintro _ _ ⟨hh, rfl⟩
    rw [hh]
    cases hk : s_keyB a1 b1 c1 with
    | false =>
      refine bX11_get_5x (x_X11_requireKey ok hk) ?_
      rintro _ rfl
      exact R_x (k := 2) W (by unfold F_get; rw [if_neg (by rw [hin]; decide), if_pos hk]) (by decide)
    | true =>
      refine bX11_get_5 (c_X11_requireKey ok hk) ?_
      rintro _ hh
      rw [hh]
      cases hb : (g_X M t).1.1 with
      | false =>
        refine bX11_get_14x (c_begunX ok r1 ht hb) ?_
        rintro _ rfl
        exact R_x (k := 3) W (by unfold F_get; rw [if_neg (by rw [hin]; decide), if_neg (by rw [hk]; decide), e9, if_pos hb]) (by decide)
      | true =>
        obtain ⟨na, nb, nc⟩ := s_keyB_na hk
        have hc := s_cd_lt na nb nc
        obtain ⟨n9, E9, -, -⟩ := sE_n s
        have hra' := hra t ht
        obtain ⟨kept, o12, -⟩ := tx_obj r1 ht
        obtain ⟨f0, f1, f2, f3, f4, f5, o11⟩ := sE_obj s
        obtain ⟨⟨z0, l1⟩, -⟩ := id r4
        refine bX11_get_14 (c_begun ok r1 ht hb) ?_
        rintro _ hh
        rw [hh]
        refine bX11_get_19 (c_X11_codeOf ok na nb nc) ?_
        rintro _ _ ⟨hh, rfl⟩
        rw [hh]
        refine bX11_get_26 r3 rfl rfl o12 rfl (k_is_o o11) (c_E_entryIn ok s (by omega) (by omega)) ?_
        rintro _ y ⟨hh, hy⟩
        rw [hh]
        refine bX11_get_50 (k_is_o o12) (c_X_look ok r1 ht hb l1 (by omega) hy) ?_
        rintro h1 e1
        obtain ⟨s1, q1, l11, m1⟩ := cell_rs s r _ e1
        have co1 := co_mo co m1
        obtain ⟨r11, r12, r13, r14, r15, r16, r17⟩ := id q1
        have l12 : h1.1 (a + 10) = some (o_cel (g_see M t (s_cd a1 b1 c1)).1 (g_see M t (s_cd a1 b1 c1)).2) := l11
        refine bX11_get_53 r13 rfl l12 rfl (fun c2 => ?_) (fun c2 => ?_)
        · rw [kB_0] at c2
          have hF : ∀ r, s_rdk counts (g_X M t).2.1 (g_X M t).2.2 (s_cd a1 b1 c1) (g_ser M) = r → F_get M (nI t) a1 b1 c1 counts = (g_rdg M t r, 0, o_told (g_see M t (s_cd a1 b1 c1)).1) := fun r hr => by
            unfold F_get
            rw [if_neg (by rw [hin]; decide), if_neg (by rw [hk]; decide), e9, if_neg (by rw [hb]; decide), if_neg (by rw [c2]; decide), hr]
          refine bX11_get_73 (fun c3 => ?_) (fun c3 => ?_)
          · rw [kB_0] at c3
            refine bX11_get_85 r13 rfl (k_is_o l12) (c_X0_told ok l12) ?_
            rintro _ _ ⟨hh, rfl⟩
            rw [hh, o_told_eq]
            refine bX11_get_92 (R_ok (M := M) ⟨Q, S, PS, s1, q1, p, co_le co1 (by omega)⟩ ?_)
            rw [hF _ (by unfold s_rdk; rw [if_neg (by rw [c3]; simp)]), g_rdg_self]
          · rw [kB_n0] at c3
            obtain ⟨kept1, o1, -⟩ := tx_obj r11 ht
            refine bX11_get_78 (k_is_o o1) (c_X_putDownKey ok r11 ht hb (by omega) (hrd t ht)) ?_
            rintro h2 ⟨x2, m2⟩
            obtain ⟨s2, q2⟩ := rs_tx (M' := g_rk M t (s_cd a1 b1 c1)) s1 q1 ht m2 (by simp) x2 ⟨rfl, rfl, rfl, rfl, rfl, rfl⟩
            have co2 := co_mo co1 m2
            have l13 : h2.1 (a + 10) = some (o_cel (g_see M t (s_cd a1 b1 c1)).1 (g_see M t (s_cd a1 b1 c1)).2) := m2.1 _ _ l12 (tx_nA ht 10 (by omega)) (fun _ _ _ => List.not_mem_nil)
            refine bX11_get_85 q2.2.2.1 rfl (k_is_o l13) (c_X0_told ok l13) ?_
            rintro _ _ ⟨hh, rfl⟩
            rw [hh, o_told_eq]
            refine bX11_get_92 (R_ok (M := g_rk M t (s_cd a1 b1 c1)) ⟨Q, S, PS, s2, q2, p, co2⟩ ?_)
            rw [hF _ rfl, c3]
            rfl
        · rw [kB_n0] at c2
          refine bX11_get_63 ?_
          exact R_x (k := 3) (M := M) ⟨Q, S, PS, s1, q1, p, co1⟩ (by unfold F_get; rw [if_neg (by rw [hin]; decide), if_neg (by rw [hk]; decide), e9, if_neg (by rw [hb]; decide), if_pos c2]) (by decide)
theorem C_range (ok : k_ok G l) {a N w : Nat} {B : Nat × Nat} {h : k_H} {M : s_M} {x a1 b1 : Int32} {counts : Bool} (W : c_W a B h M N w) (hlim : e_lim (g_E M)) (hnm : g_nm M) (hra : ∀ t, t < 4 → (g_X M t).1.2.2.1 ≤ g_n M) (hrd : ∀ t, t < 4 → (g_X M t).2.2.length < 2048) :
    k_ct (tX11_range G l) [vR (some a), vI x, vI a1, vI b1, vI (kB counts)] h (c_R a B (F_range M x a1 b1 counts) x_3 (N + 1) w) := by
  obtain ⟨Q, S, PS, s, r, p, co⟩ := id W
  obtain ⟨r1, r2, r3, r4, r5, r6, r7⟩ := id r
  refine eX11_range ok.2 ?_
  cases hin : s_inB x 0 3 with
  | false =>
    refine bX11_range_0x (k_is_o r3) (c_trAtX ok r3 r4 hin) ?_
    rintro _ rfl
    exact R_x (k := 1) W (by unfold F_range; rw [if_pos hin]) (by decide)
  | true =>
    obtain ⟨t, ht, rfl, e9⟩ := s_in4 hin
    have e9 : t_of (nI t) = t := e9
    refine bX11_range_0 (k_is_o r3) (c_trAt ok r3 r4 r1 ht) ?_
    rintro _ _ ⟨hh, rfl⟩
    rw [hh]
    cases hk : s_rngB a1 b1 with
    | false =>
      refine bX11_range_5x (x_X11_requireRange ok hk) ?_
      rintro _ rfl
      exact R_x (k := 2) W (by unfold F_range; rw [if_neg (by rw [hin]; decide), if_pos hk]) (by decide)
    | true =>
      refine bX11_range_5 (c_X11_requireRange ok hk) ?_
      rintro _ hh
      rw [hh]
      cases hb : (g_X M t).1.1 with
      | false =>
        refine bX11_range_12x (c_begunX ok r1 ht hb) ?_
        rintro _ rfl
        exact R_x (k := 3) W (by unfold F_range; rw [if_neg (by rw [hin]; decide), if_neg (by rw [hk]; decide), e9, if_pos hb]) (by decide)
      | true =>
        obtain ⟨na, nb⟩ := s_rngB_na hk
        obtain ⟨hl1, hl2, hl3, hl4⟩ := s_hi_la na nb
        obtain ⟨n9, E9, -, -⟩ := sE_n s
        have hra' := hra t ht
        refine bX11_range_12 (c_begun ok r1 ht hb) ?_
        rintro _ hh
        rw [hh]
        refine bX11_range_17 (c_X11_lowOf ok na nb) ?_
        rintro _ _ ⟨hh, rfl⟩
        rw [hh]
        refine bX11_range_25 (c_X11_highOf ok na nb) ?_
        rintro _ _ ⟨hh, rfl⟩
        rw [hh]
        refine bX11_range_30 (k_is_o r3) (c_listSeen ok s r co ht hb (by omega) (by omega) (by omega) hlim hnm) ?_
        rintro h1 ⟨s1, q1, co1, X, cap, l12, eX, -⟩
        rw [rng_hi E9 hl1] at eX
        have elen : (X.map (fun x => x.2)).length = (g_rng M t (s_lo a1 b1) (s_la a1 b1 + 1)).length := by
          have := congrArg List.length eX
          rw [List.length_map, List.length_map] at this
          rw [List.length_map, this]
        obtain ⟨r11, r12, r13, r14, r15, r16, r17⟩ := id q1
        have hF : ∀ M', (if counts = true then g_rdg M t ((g_X M t).2.2 ++ [(s_lo a1 b1, s_la a1 b1 + 1, g_ser M)]) else M) = M' → F_range M (nI t) a1 b1 counts = (M', 0, nI (g_rng M t (s_lo a1 b1) (s_la a1 b1 + 1)).length) := fun M' hr => by
          unfold F_range
          rw [if_neg (by rw [hin]; decide), if_neg (by rw [hk]; decide), e9, if_neg (by rw [hb]; decide), hr]
        refine bX11_range_33 (fun c3 => ?_) (fun c3 => ?_)
        · rw [kB_0] at c3
          refine bX11_range_53 r13 rfl (Or.inr ⟨rfl, _, _, l12⟩) (c_size ok l12) ?_
          rintro _ _ ⟨hh, rfl⟩
          rw [hh, elen]
          refine bX11_range_60 (R_ok (M := M) ⟨Q, S, PS, s1, q1, p, co_le co1 (by omega)⟩ (hF M (by rw [c3, if_neg (by decide)])))
        · rw [kB_n0] at c3
          refine bX11_range_38 (c_X11_lowOf ok na nb) ?_
          rintro _ _ ⟨hh, rfl⟩
          rw [hh]
          refine bX11_range_45 (c_X11_highOf ok na nb) ?_
          rintro _ _ ⟨hh, rfl⟩
          rw [hh]
          obtain ⟨kept1, o1, -⟩ := tx_obj r11 ht
          refine bX11_range_50 (k_is_o o1) (c_X_putDown ok r11 ht hb hl1 (by omega) (by omega) (hrd t ht)) ?_
          rintro h2 ⟨x2, m2⟩
          obtain ⟨s2, q2⟩ := rs_tx (M' := g_rdg M t ((g_X M t).2.2 ++ [(s_lo a1 b1, s_la a1 b1 + 1, g_ser M)])) s1 q1 ht m2 (by simp) x2 ⟨rfl, rfl, rfl, rfl, rfl, rfl⟩
          have co2 := co_mo co1 m2
          have l13 : h2.1 (a + 12) = some (k_l (X.map (fun x => x.2)) cap) := m2.1 _ _ l12 (tx_nA ht 12 (by omega)) (fun _ _ _ => List.not_mem_nil)
          refine bX11_range_53 q2.2.2.1 rfl (Or.inr ⟨rfl, _, _, l13⟩) (c_size ok l13) ?_
          rintro _ _ ⟨hh, rfl⟩
          rw [hh, elen]
          exact bX11_range_60 (R_ok (M := g_rdg M t ((g_X M t).2.2 ++ [(s_lo a1 b1, s_la a1 b1 + 1, g_ser M)])) ⟨Q, S, PS, s2, q2, p, co2⟩ (hF _ (by rw [c3, if_pos rfl])))
theorem C_rangeAt (ok : k_ok G l) {a N w : Nat} {B : Nat × Nat} {h : k_H} {M : s_M} {x a1 b1 p1 w1 : Int32} (W : c_W a B h M N w) (hlim : e_lim (g_E M)) (hnm : g_nm M) (hra : ∀ t, t < 4 → (g_X M t).1.2.2.1 ≤ g_n M) (hrd : ∀ t, t < 4 → (g_X M t).2.2.length < 2048) :
    k_ct (tX11_rangeAt G l) [vR (some a), vI x, vI a1, vI b1, vI p1, vI w1] h (c_R a B (F_rangeAt M x a1 b1 p1 w1) x_3 (N + 1) w) := by
  obtain ⟨Q, S, PS, s, r, p, co⟩ := id W
  obtain ⟨r1, r2, r3, r4, r5, r6, r7⟩ := id r
  refine eX11_rangeAt ok.2 ?_
  cases hin : s_inB x 0 3 with
  | false =>
    refine bX11_rangeAt_0x (k_is_o r3) (c_trAtX ok r3 r4 hin) ?_
    rintro _ rfl
    exact R_x (k := 1) W (by unfold F_rangeAt; rw [hin, Bool.false_and, if_pos rfl]) (by decide)
  | true =>
    obtain ⟨t, ht, rfl, e9⟩ := s_in4 hin
    have e9 : t_of (nI t) = t := e9
    refine bX11_rangeAt_0 (k_is_o r3) (c_trAt ok r3 r4 r1 ht) ?_
    rintro _ _ ⟨hh, rfl⟩
    rw [hh]
    refine bX11_rangeAt_5 (fun c0 => ?_) (fun c0 => ?_)
    · have c0' : ¬ p1 < 0 := Int32.not_lt.mpr c0
      have hp0 : (s_inB (nI t) 0 3 && decide (¬ p1 < 0)) = true := by rw [hin, decide_eq_true c0']; rfl
      cases hk : s_rngB a1 b1 with
      | false =>
        refine bX11_rangeAt_22x (x_X11_requireRange ok hk) ?_
        rintro _ rfl
        exact R_x (k := 2) W (by unfold F_rangeAt; rw [if_neg (by rw [hp0]; decide), hk, Bool.false_and, if_pos rfl]) (by decide)
      | true =>
        refine bX11_rangeAt_22 (c_X11_requireRange ok hk) ?_
        rintro _ hh
        rw [hh]
        have bad : s_inB w1 0 2 = false → k_X (jX11_rangeAt G l h) h 38 [] [] (c_R a B (F_rangeAt M (nI t) a1 b1 p1 w1) x_3 (N + 1) w) := fun hw =>
          bX11_rangeAt_38 (R_x (k := 2) W (by unfold F_rangeAt; rw [if_neg (by rw [hp0]; decide), hk, hw, Bool.true_and, if_pos rfl]) (by decide))
        refine bX11_rangeAt_27 (fun c2 => bad ?_) (fun c2 => ?_)
        · unfold s_inB; rw [decide_eq_false (by simpa using c2), Bool.false_and]
        refine bX11_rangeAt_32 (fun c3 => ?_) (fun c3 => bad ?_)
        · have hw : s_inB w1 0 2 = true := by
            unfold s_inB
            rw [decide_eq_true c2, decide_eq_true (Int32.not_lt.mpr c3)]; rfl
          have hkw : (s_rngB a1 b1 && s_inB w1 0 2) = true := by rw [hk, hw]; rfl
          cases hb : (g_X M t).1.1 with
          | false =>
            refine bX11_rangeAt_48x (c_begunX ok r1 ht hb) ?_
            rintro _ rfl
            exact R_x (k := 3) W (by unfold F_rangeAt; rw [if_neg (by rw [hp0]; decide), if_neg (by rw [hkw]; decide), e9, if_pos hb]) (by decide)
          | true =>
            obtain ⟨na, nb⟩ := s_rngB_na hk
            obtain ⟨hl1, hl2, hl3, hl4⟩ := s_hi_la na nb
            obtain ⟨n9, E9, -, -⟩ := sE_n s
            have hra' := hra t ht
            refine bX11_rangeAt_48 (c_begun ok r1 ht hb) ?_
            rintro _ hh
            rw [hh]
            refine bX11_rangeAt_53 (c_X11_lowOf ok na nb) ?_
            rintro _ _ ⟨hh, rfl⟩
            rw [hh]
            refine bX11_rangeAt_61 (c_X11_highOf ok na nb) ?_
            rintro _ _ ⟨hh, rfl⟩
            rw [hh]
            refine bX11_rangeAt_66 (k_is_o r3) (c_listSeen ok s r co ht hb (by omega) (by omega) (by omega) hlim hnm) ?_
            rintro h1 ⟨s1, q1, co1, X, cap, l12, eX, hX⟩
            rw [rng_hi E9 hl1] at eX
            have elen : (X.map (fun x => x.2)).length = (g_rng M t (s_lo a1 b1) (s_la a1 b1 + 1)).length := by
              have := congrArg List.length eX
              rw [List.length_map, List.length_map] at this
              rw [List.length_map, this]
            have hEl : (g_rng M t (s_lo a1 b1) (s_la a1 b1 + 1)).length ≤ 12000 := Nat.le_trans (List.length_filter_le _ _) hlim.1
            obtain ⟨r11, r12, r13, r14, r15, r16, r17⟩ := id q1
            obtain ⟨kept1, o1, -⟩ := tx_obj r11 ht
            refine bX11_rangeAt_69 (c_X11_lowOf ok na nb) ?_
            rintro _ _ ⟨hh, rfl⟩
            rw [hh]
            refine bX11_rangeAt_76 (c_X11_highOf ok na nb) ?_
            rintro _ _ ⟨hh, rfl⟩
            rw [hh]
            refine bX11_rangeAt_81 (k_is_o o1) (c_X_putDown ok r11 ht hb hl1 (by omega) (by omega) (hrd t ht)) ?_
            rintro h2 ⟨x2, m2⟩
            obtain ⟨s2, q2⟩ := rs_tx (M' := g_rdg M t ((g_X M t).2.2 ++ [(s_lo a1 b1, s_la a1 b1 + 1, g_ser M)])) s1 q1 ht m2 (by simp) x2 ⟨rfl, rfl, rfl, rfl, rfl, rfl⟩
            have co2 := co_mo co1 m2
            have l13 : h2.1 (a + 12) = some (k_l (X.map (fun x => x.2)) cap) := m2.1 _ _ l12 (tx_nA ht 12 (by omega)) (fun _ _ _ => List.not_mem_nil)
            have hF : ∀ v, (match (g_rng M t (s_lo a1 b1) (s_la a1 b1 + 1))[p1.toInt.toNat]? with | some y => s_no y.1 (s_pl w1) | none => -2147483648) = v → F_rangeAt M (nI t) a1 b1 p1 w1 = (g_rdg M t ((g_X M t).2.2 ++ [(s_lo a1 b1, s_la a1 b1 + 1, g_ser M)]), 0, v) := fun v hv => by
              subst hv
              unfold F_rangeAt
              rw [if_neg (by rw [hp0]; decide), if_neg (by rw [hkw]; decide), e9, if_neg (by rw [hb]; decide)]
              rfl
            have W2 : c_W a B h2 (g_rdg M t ((g_X M t).2.2 ++ [(s_lo a1 b1, s_la a1 b1 + 1, g_ser M)])) (N + 1) w := ⟨Q, S, PS, s2, q2, p, co2⟩
            have p1i : 0 ≤ p1.toInt := by
              have := Int32.le_iff_toInt_le.mp c0
              simpa using this
            have hp1 : p1 = nI p1.toInt.toNat := nI_ofN p1i
            refine bX11_rangeAt_84 q2.2.2.1 rfl (Or.inr ⟨rfl, _, _, l13⟩) (c_size ok l13) ?_
            rintro _ _ ⟨hh, rfl⟩
            rw [hh, elen]
            have hle : nI (g_rng M t (s_lo a1 b1) (s_la a1 b1 + 1)).length ≤ p1 ↔ (g_rng M t (s_lo a1 b1) (s_la a1 b1 + 1)).length ≤ p1.toInt.toNat := by
              have h9 : p1.toInt < 2 ^ 31 := Int32.toInt_lt p1
              rw [Int32.le_iff_toInt_le, nI_toInt (by omega)]
              omega
            refine bX11_rangeAt_93 (fun c4 => ?_) (fun c4 => ?_)
            · have c5 := hle.mp c4
              refine bX11_rangeAt_119 (bX11_rangeAt_121 (R_ok W2 (hF _ ?_)))
              rw [List.getElem?_eq_none c5]
            · have c5 : ¬ (g_rng M t (s_lo a1 b1) (s_la a1 b1 + 1)).length ≤ p1.toInt.toNat := fun z => c4 (hle.mpr z)
              have hlt : p1.toInt.toNat < X.length := by rw [List.length_map] at elen; omega
              obtain ⟨y, hy⟩ : ∃ y, X[p1.toInt.toNat]? = some y := ⟨_, List.getElem?_eq_getElem hlt⟩
              have hy2 : (X.map (fun x => x.2))[p1.toInt.toNat]? = some y.2 := by rw [List.getElem?_map, hy]; rfl
              have hy1 : ((g_rng M t (s_lo a1 b1) (s_la a1 b1 + 1)).map (fun x => x.1))[p1.toInt.toNat]? = some y.1 := by rw [← eX, List.getElem?_map, hy]; rfl
              have hyc := (hX y (List.mem_of_getElem? hy)).1
              obtain ⟨f, hf⟩ := (hX y (List.mem_of_getElem? hy)).2.2
              have hf2 : h2.1 y.2 = some (k_o 7 [vJ (lN y.1), f]) := m2.1 _ _ hf (tx_nO r11 ht _ _ _ hf (by decide)) (fun _ _ _ => List.not_mem_nil)
              have hg : k_ctr (tAL_get G l) [vR (some (a + 12)), vI p1] h2 (fun h' v => h' = h2 ∧ v = some y.2) := by
                rw [hp1]
                exact c_get ok l13 hy2
              refine bX11_rangeAt_96 q2.2.2.1 rfl (Or.inr ⟨rfl, _, _, l13⟩) hg ?_
              rintro _ _ ⟨hh, rfl⟩
              rw [hh]
              refine bX11_rangeAt_105 hf2 rfl (c_X11_numberOf ok hyc) ?_
              rintro _ _ ⟨hh, rfl⟩
              rw [hh]
              refine bX11_rangeAt_116 (bX11_rangeAt_121 (R_ok W2 (hF _ ?_)))
              rw [List.getElem?_map] at hy1
              cases hg : (g_rng M t (s_lo a1 b1) (s_la a1 b1 + 1))[p1.toInt.toNat]? with
              | none => rw [hg] at hy1; cases hy1
              | some g =>
                rw [hg] at hy1
                have : g.1 = y.1 := by simpa using hy1
                show s_no g.1 (s_pl w1) = _
                rw [this]
        · unfold s_inB; rw [decide_eq_false (show ¬ ¬ (2 : Int32) < w1 from fun z => c3 (Int32.not_lt.mp z)), Bool.and_false]
    · refine bX11_rangeAt_12 (R_x (k := 1) W (by
        unfold F_rangeAt
        rw [hin, decide_eq_false (show ¬ ¬ p1 < 0 from fun z => c0 (Int32.not_lt.mp z)), Bool.and_false, if_pos rfl]) (by decide))
end CGT
end
section
/-! SMALL CALLS OF THE CLASS -/
def x_A (k : Nat) : String := x_IA
def x_I (k : Nat) : String := if k = 1 then x_IO else x_IS
theorem ob_upd {a : Nat} {h : k_H} {M M' : s_M} (fs : List k_V) (o : h.1 a = some (k_o 14 fs)) : k_mo a [] (fun q => q = a) 0 h (k_up h a (k_o 14 fs)) := mv_o o (Or.inr rfl)
/-- the class's own object changes -/
theorem rs_own {a w n S : Nat} {h h' : k_H} {M M' : s_M} {E : e_S} {Q : List k_K2} {PS : List k_PT} {fs : List k_V} (s : c_sE a h E n Q S) (r : c_rs a h M Q w PS) (hh : h' = k_up h a (k_o 14 fs)) (ho : c_ob a h' M') (e : g_X M' = g_X M ∧ g_ser M' = g_ser M ∧ g_MK M' = g_MK M ∧ g_DS M' = g_DS M ∧ g_WT M' = g_WT M) :
    c_sE a h' E n Q S ∧ c_rs a h' M' Q w PS ∧ k_mo a [] (fun q => q = a) 0 h h' := by
  obtain ⟨r1, r2, r3, r4, r5, r6, r7⟩ := r
  have m : k_mo a [] (fun q => q = a) 0 h h' := by rw [hh]; exact mv_o r3 (Or.inr rfl)
  have nO : ∀ q ci fs, h.1 q = some (k_o ci fs) → ci ≠ 14 → ¬ (q = a) := fun q ci fs hq hc z => by rw [z, r3] at hq; cases hq; exact hc rfl
  obtain ⟨e1, e2, e3, e4, e5⟩ := e
  refine ⟨sE_fr s m (by simp) (fun i h1 h2 z => by omega) (fun q ci fs hq hc => nO q ci fs hq (by rcases hc with e | e | e <;> rw [e] <;> decide)), ⟨?_, pa_fr r2 m (by simp) ⟨by omega, by omega⟩ (fun q fs hq => nO q 8 fs hq (by decide)), ho, cl_fr r4 m.1 (by simp) ⟨by omega, by omega, by omega⟩, ?_, ?_, ?_⟩, m⟩
  · rw [e1, e2]
    exact TX_fr r1 m (by simp) (fun q ci fs hq hc => nO q ci fs hq (by rcases hc with e | e <;> rw [e] <;> decide)) (fun i h1 h2 z => by omega)
  · rw [e3]; exact mk_fr r5 m.1 (by omega)
  · rw [e4]; exact dr_fr r6 m.1 (by simp) (by omega) (fun q fs hq => nO q 5 fs hq (by decide))
  · rw [e5]; exact wa_fr r7 m.1 (by simp) (by omega) (fun q fs hq => nO q 13 fs hq (by decide))
theorem W_own {a w N : Nat} {B : Nat × Nat} {h h' : k_H} {M M' : s_M} {fs : List k_V} (W : c_W a B h M N w) (hh : h' = k_up h a (k_o 14 fs)) (ho : c_ob a h' M') (e : g_X M' = g_X M ∧ g_ser M' = g_ser M ∧ g_MK M' = g_MK M ∧ g_DS M' = g_DS M ∧ g_WT M' = g_WT M) (e2 : g_E M' = g_E M ∧ g_n M' = g_n M ∧ g_PT M' = g_PT M) : c_W a B h' M' N w := by
  obtain ⟨Q, S, PS, s, r, p, co⟩ := W
  obtain ⟨s1, q1, m1⟩ := rs_own s r hh ho e
  obtain ⟨e3, e4, e5⟩ := e2
  refine ⟨Q, S, PS, by rw [e3, e4]; exact s1, q1, ⟨by rw [e5]; exact p.1, ?_⟩, co_le (co_mo co m1) (Nat.le_refl _)⟩
  unfold g_V
  rw [e3, e4]
  exact p.2
section CSM
variable {G : k_G} {l : Launch}
theorem C_why (ok : k_ok G l) {a N w : Nat} {B : Nat × Nat} {h : k_H} {M : s_M} (W : c_W a B h M N w) : k_ct (tX11_why G l) [vR (some a)] h (c_R a B (F_why M) x_3 N w) := by
  obtain ⟨Q, S, PS, s, r, p, co⟩ := id W
  obtain ⟨r1, r2, r3, r4, r5, r6, r7⟩ := id r
  exact eX11_why ok.2 (bX11_why_0 r3 rfl (R_ok W rfl))
theorem C_version (ok : k_ok G l) {a N w : Nat} {B : Nat × Nat} {h : k_H} {M : s_M} (W : c_W a B h M N w) : k_ct (tX11_version G l) [vR (some a)] h (c_R a B (F_version M) x_3 N w) := by
  obtain ⟨Q, S, PS, s, r, p, co⟩ := id W
  obtain ⟨r1, r2, r3, r4, r5, r6, r7⟩ := id r
  obtain ⟨f0, f1, f2, f3, f4, f5, o11⟩ := sE_obj s
  exact eX11_version ok.2 (bX11_version_0 r3 rfl o11 rfl (R_ok W rfl))
theorem C_lose (ok : k_ok G l) {a N w : Nat} {B : Nat × Nat} {h : k_H} {M : s_M} {d : Bool} (W : c_W a B h M N w) : k_ct (tX11_lose G l) [vR (some a), vI (kB d)] h (c_Rv a B (F_lose M d) x_3 N w) := by
  obtain ⟨Q, S, PS, s, r, p, co⟩ := id W
  obtain ⟨r1, r2, r3, r4, r5, r6, r7⟩ := id r
  refine eX11_lose ok.2 (bX11_lose_0 (fun c => ?_) (fun c => ?_))
  · rw [kB_0] at c
    subst c
    refine bX11_lose_9 (bX11_lose_10 r3 rfl (bX11_lose_13 ?_))
    generalize hh : k_up h a _ = h'
    have ho : c_ob a h' (g_sl M 2) := by rw [← hh]; exact k_up_self _ _ _
    exact ⟨W_own (M' := g_sl M 2) W hh.symm ho ⟨rfl, rfl, rfl, rfl, rfl⟩ ⟨rfl, rfl, rfl⟩, rfl⟩
  · rw [kB_n0] at c
    subst c
    refine bX11_lose_5 (bX11_lose_10 r3 rfl (bX11_lose_13 ?_))
    generalize hh : k_up h a _ = h'
    have ho : c_ob a h' (g_sl M 1) := by rw [← hh]; exact k_up_self _ _ _
    exact ⟨W_own (M' := g_sl M 1) W hh.symm ho ⟨rfl, rfl, rfl, rfl, rfl⟩ ⟨rfl, rfl, rfl⟩, rfl⟩
theorem V_adv {M : s_M} {k gen : Nat} {a S : Nat} {h : k_H} {Q : List k_K2} (s : c_sE a h (g_E M) (g_n M) Q S) : g_V (g_adv M k gen) = g_V M := by
  obtain ⟨KS, L, WS, z, st, rE, q, e⟩ := s
  obtain ⟨cK, cW, cH, xs, ka, -, -, ⟨g1, g2, g3⟩, tW, tn, ta, tw⟩ := id st
  unfold g_V m_V
  show (List.filter (fun x => (r_val x.1 (g_n M + k) (g_E M).2.1).isSome) (g_E M).1).map _ = (List.filter (fun x => (r_val x.1 (g_n M) (g_E M).2.1).isSome) (g_E M).1).map _
  congr 1
  refine List.filter_congr fun y _ => ?_
  rw [← rE.1.1, ← rE.1.1, r_val_adv g1 (Nat.le_add_right _ _)]
theorem C_recover (ok : k_ok G l) {a N w : Nat} {B : Nat × Nat} {h : k_H} {M : s_M} (W : c_W a B h M N w) (hn : g_n M + 10 ≤ 9000) : k_ct (tX11_recover G l) [vR (some a)] h (c_R a B (F_recover M) x_3 N w) := by
  obtain ⟨Q, S, PS, s, r, p, co⟩ := id W
  obtain ⟨r1, r2, r3, r4, r5, r6, r7⟩ := id r
  refine eX11_recover ok.2 (bX11_recover_0 r3 rfl rfl ?_)
  generalize hh : k_up h a _ = h'
  have ho : c_ob a h' (g_adv M 10 (g_gen M + 1)) := by
    rw [← hh, nI_1]
    exact k_up_self _ _ _
  obtain ⟨s1, q1, m1⟩ := rs_own (M' := g_adv M 10 (g_gen M + 1)) s r hh.symm ho ⟨rfl, rfl, rfl, rfl, rfl⟩
  obtain ⟨f0, f1, f2, f3, f4, f5, o11⟩ := sE_obj s1
  refine bX11_recover_10 ho rfl (k_is_o o11) (c_E_advance ok (m := 10) s1 hn) ?_
  rintro h2 ⟨s2, m2⟩
  have q2 := rs_sto q1 s1 m2
  obtain ⟨f0', f1', f2', f3', f4', f5', o12⟩ := sE_obj s2
  have co2 : c_co a B h2 (S + N) := co_le (co_mo (co_mo co m1) m2) (Nat.le_refl _)
  refine bX11_recover_19 q2.2.2.1 rfl o12 rfl (R_ok (M := g_adv M 10 (g_gen M + 1)) ⟨Q, S, PS, s2, q2, ⟨p.1, ?_⟩, co2⟩ rfl)
  rw [V_adv s]
  exact p.2
theorem C_pass (ok : k_ok G l) {a N w : Nat} {B : Nat × Nat} {h : k_H} {M : s_M} {x : Int32} (W : c_W a B h M N w) (hn : g_n M + 10 ≤ 9000) : k_ct (tX11_pass G l) [vR (some a), vI x] h (c_R a B (F_pass M x) x_A (N + 1) w) := by
  obtain ⟨Q, S, PS, s, r, p, co⟩ := id W
  obtain ⟨r1, r2, r3, r4, r5, r6, r7⟩ := id r
  have bad : s_inB x 1 10 = false → k_X (jX11_pass G l h) h 11 [] [] (c_R a B (F_pass M x) x_A (N + 1) w) := fun hw =>
    bX11_pass_11 (R_x (k := 1) W (by unfold F_pass; rw [if_pos hw]) (by decide))
  refine eX11_pass ok.2 (bX11_pass_0 (fun c => bad ?_) (fun c1 => bX11_pass_5 (fun c2 => ?_) (fun c => bad ?_)))
  · unfold s_inB; rw [decide_eq_false (by simpa using c), Bool.false_and]
  · have hin : s_inB x 1 10 = true := by unfold s_inB; rw [decide_eq_true c1, decide_eq_true (Int32.not_lt.mpr c2)]; rfl
    obtain ⟨hx, hx1, hx2⟩ := s_inA (a := 1) (m := 10) (by decide) (by decide) hin
    obtain ⟨f0, f1, f2, f3, f4, f5, o11⟩ := sE_obj s
    have hadv := c_E_advance ok (m := x.toInt.toNat) s (by omega)
    rw [← hx] at hadv
    refine bX11_pass_21 r3 rfl (k_is_o o11) hadv ?_
    rintro h2 ⟨s2, m2⟩
    have q2 := rs_sto r s m2
    obtain ⟨f0', f1', f2', f3', f4', f5', o12⟩ := sE_obj s2
    exact bX11_pass_29 q2.2.2.1 rfl o12 rfl (R_ok (M := g_adv M x.toInt.toNat (g_gen M)) ⟨Q, S, PS, s2, q2, ⟨p.1, by rw [V_adv s]; exact p.2⟩, co_le (co_mo co m2) (by omega)⟩ (by unfold F_pass; rw [if_neg (by rw [hin]; decide)]))
  · unfold s_inB; rw [decide_eq_false (show ¬ ¬ (10 : Int32) < x from fun z => c (Int32.not_lt.mp z)), Bool.and_false]
theorem C_value (ok : k_ok G l) {a N w : Nat} {B : Nat × Nat} {h : k_H} {M : s_M} {v a1 b1 e1 : Int32} (W : c_W a B h M N w) : k_ct (tX11_value G l) [vR (some a), vI v, vI a1, vI b1, vI e1] h (c_R a B (F_value M v a1 b1 e1) x_A (N + 1) w) := by
  obtain ⟨Q, S, PS, s, r, p, co⟩ := id W
  obtain ⟨r1, r2, r3, r4, r5, r6, r7⟩ := id r
  obtain ⟨f0, f1, f2, f3, f4, f5, o11⟩ := sE_obj s
  obtain ⟨n9, E9, -, -⟩ := sE_n s
  have bad : s_inB v 0 (nI (g_n M)) = false → k_X (jX11_value G l h) h 15 [] [] (c_R a B (F_value M v a1 b1 e1) x_A (N + 1) w) := fun hw =>
    bX11_value_15 (R_x (k := 1) W (by unfold F_value; rw [if_pos (by rw [hw]; rfl)]) (by decide))
  refine eX11_value ok.2 (bX11_value_0 (fun c => bad ?_) (fun c1 => bX11_value_4 r3 rfl o11 rfl (fun c2 => ?_) (fun c => bad ?_)))
  · unfold s_inB; rw [decide_eq_false (by simpa using c), Bool.false_and]
  · have hin : s_inB v 0 (nI (g_n M)) = true := by unfold s_inB; rw [decide_eq_true c1, decide_eq_true (Int32.not_lt.mpr c2)]; rfl
    obtain ⟨hv, hv2⟩ := s_inN (by omega) hin
    cases hk : s_keyB a1 b1 e1 with
    | false =>
      refine bX11_value_25x (x_X11_requireKey ok hk) ?_
      rintro _ rfl
      exact R_x (k := 1) W (by unfold F_value; rw [if_pos (by rw [hk, Bool.and_false])]) (by decide)
    | true =>
      refine bX11_value_25 (c_X11_requireKey ok hk) ?_
      rintro _ hh
      rw [hh]
      obtain ⟨na, nb, nc⟩ := s_keyB_na hk
      have hc := s_cd_lt na nb nc
      obtain ⟨⟨z0, l1⟩, -⟩ := id r4
      refine bX11_value_32 r3 rfl rfl (c_X11_codeOf ok na nb nc) ?_
      rintro _ _ ⟨hh, rfl⟩
      rw [hh]
      have he := c_E_entryIn ok (c := s_cd a1 b1 e1) (m := v.toInt.toNat) s (by omega) (by omega)
      rw [← hv] at he
      refine bX11_value_47 (k_is_o o11) he ?_
      rintro _ y ⟨hh, hy⟩
      rw [hh]
      refine bX11_value_51 (k_is_o l1) (c_X0_load ok l1 hy) ?_
      rintro h1 e2
      obtain ⟨s1, q1, l11, m1⟩ := cell_rs s r (r_val (s_cd a1 b1 e1) v.toInt.toNat (g_E M).2.1, false) e2
      refine bX11_value_54 q1.2.2.1 rfl (k_is_o l11) (c_X0_told ok l11) ?_
      rintro _ _ ⟨hh, rfl⟩
      rw [hh, o_told_eq]
      exact bX11_value_61 (R_ok (M := M) ⟨Q, S, PS, s1, q1, p, co_le (co_mo co m1) (by omega)⟩ (by unfold F_value; rw [hin, hk, if_neg (by decide)]))
  · unfold s_inB; rw [decide_eq_false (show ¬ ¬ nI (g_n M) < v from fun z => c (Int32.not_lt.mp z)), Bool.and_false]
end CSM
end
section
/-! THE CLASS'S packed -/
def pk_z (a b c k : Int32) : Int32 := if k = 0 then a else if k = 1 then b else if k = 2 then c else 10000
theorem pk_key {a b c : Int32} (hk : s_keyB a b c = true) : s_nm a ∧ ((b = 10000 ∧ c = 10000) ∨ (s_nm b ∧ (c = 10000 ∨ s_nm c))) := by
  unfold s_keyB at hk
  simp only [Bool.and_eq_true, Bool.or_eq_true, decide_eq_true_eq, s_nmB_iff] at hk
  exact hk
theorem pk_at {a b c : Int32} {j : Nat} (hk : s_keyB a b c = true) (hj : j < 2 ^ 31) : (nI j ≤ s_last b c → s_nm (pk_z a b c (nI j)) ∧ s_no (s_cd a b c) (s_pl (nI j)) = pk_z a b c (nI j)) ∧ (¬ nI j ≤ s_last b c → pk_z a b c (nI j) = 10000) := by
  have e0 : nI j = 0 ↔ j = 0 := nI_eq (b := 0) hj (by decide)
  have e1 : nI j = 1 ↔ j = 1 := nI_eq (b := 1) hj (by decide)
  have e2 : nI j = 2 ↔ j = 2 := nI_eq (b := 2) hj (by decide)
  have l0 : nI j ≤ 0 ↔ j ≤ 0 := nI_leI (b := 0) hj (by decide)
  have l1 : nI j ≤ 1 ↔ j ≤ 1 := nI_leI (b := 1) hj (by decide)
  have l2 : nI j ≤ 2 ↔ j ≤ 2 := nI_leI (b := 2) hj (by decide)
  obtain ⟨na, nb, nc⟩ := s_keyB_na hk
  obtain ⟨h1, h2⟩ := pk_key hk
  have z0 : s_no (s_cd a b c) 0 = a := s_no_0 na nb nc
  have z1 : s_no (s_cd a b c) 1 = b := s_no_1 na nb nc
  have z2 : s_no (s_cd a b c) 2 = c := s_no_2 na nb nc
  unfold s_last pk_z s_pl
  by_cases j0 : j = 0
  · have k0 := e0.mpr j0
    rw [if_pos k0, if_pos k0]
    refine ⟨fun _ => ⟨h1, z0⟩, fun h => absurd ?_ h⟩
    split
    · exact l0.mpr (by omega)
    · split
      · exact l1.mpr (by omega)
      · exact l2.mpr (by omega)
  · rw [if_neg (fun z => j0 (e0.mp z)), if_neg (fun z => j0 (e0.mp z))]
    by_cases j1 : j = 1
    · have k1 := e1.mpr j1
      rw [if_pos k1, if_pos k1]
      rcases h2 with ⟨hb, hc⟩ | ⟨hb, hc⟩
      · rw [if_pos hb]
        exact ⟨fun h => absurd (l0.mp h) (by omega), fun _ => hb⟩
      · rw [if_neg (s_nm_ne hb)]
        refine ⟨fun _ => ⟨hb, z1⟩, fun h => absurd ?_ h⟩
        split
        · exact l1.mpr (by omega)
        · exact l2.mpr (by omega)
    · rw [if_neg (fun z => j1 (e1.mp z)), if_neg (fun z => j1 (e1.mp z))]
      by_cases j2 : j = 2
      · rw [if_pos (e2.mpr j2)]
        rcases h2 with ⟨hb, hc⟩ | ⟨hb, hc | hc⟩
        · rw [if_pos hb]
          exact ⟨fun h => absurd (l0.mp h) (by omega), fun _ => hc⟩
        · rw [if_neg (s_nm_ne hb), if_pos hc]
          exact ⟨fun h => absurd (l1.mp h) (by omega), fun _ => hc⟩
        · rw [if_neg (s_nm_ne hb), if_neg (s_nm_ne hc)]
          exact ⟨fun _ => ⟨hc, z2⟩, fun h => absurd (l2.mpr (by omega)) h⟩
      · rw [if_neg (fun z => j2 (e2.mp z))]
        refine ⟨fun h => ?_, fun _ => rfl⟩
        exfalso
        split at h
        · have := l0.mp h; omega
        · split at h
          · have := l1.mp h; omega
          · have := l2.mp h; omega
theorem pk_by {a b c p : Int32} (h : s_nm (pk_z a b c (p / 3))) : s_byte (pk_z a b c (p / 3)) (p - p / 3 * 3) = f_pk a b c p := by
  have e : f_pk a b c p = if pk_z a b c (p / 3) = 10000 then -2147483648 else if p - p / 3 * 3 = 0 then (if 0 ≤ pk_z a b c (p / 3) then 2 else 1) else if p - p / 3 * 3 = 1 then (if 0 ≤ pk_z a b c (p / 3) then pk_z a b c (p / 3) else pk_z a b c (p / 3) + 1000) / 100 else (if 0 ≤ pk_z a b c (p / 3) then pk_z a b c (p / 3) else pk_z a b c (p / 3) + 1000) - (if 0 ≤ pk_z a b c (p / 3) then pk_z a b c (p / 3) else pk_z a b c (p / 3) + 1000) / 100 * 100 := rfl
  rw [e, if_neg (s_nm_ne h)]
  unfold s_byte
  by_cases c0 : pk_z a b c (p / 3) < 0
  · rw [if_pos c0, if_pos c0, if_neg (Int32.not_le.mpr c0), if_neg (Int32.not_le.mpr c0)]
  · rw [if_neg c0, if_neg c0, if_pos (Int32.not_lt.mp c0), if_pos (Int32.not_lt.mp c0)]
section CPK
variable {G : k_G} {l : Launch}
theorem C_packed (ok : k_ok G l) {a N w : Nat} {B : Nat × Nat} {h : k_H} {M : s_M} {a1 b1 c1 p1 : Int32} (W : c_W a B h M N w) : k_ct (tX11_packed G l) [vR (some a), vI a1, vI b1, vI c1, vI p1] h (c_R a B (F_packed M a1 b1 c1 p1) x_3 (N + 1) w) := by
  refine eX11_packed ok.2 (bX11_packed_0 (fun c0 => ?_) (fun c0 => ?_))
  · have c0' : ¬ p1 < 0 := Int32.not_lt.mpr c0
    cases hk : s_keyB a1 b1 c1 with
    | false =>
      refine bX11_packed_15x (x_X11_requireKey ok hk) ?_
      rintro _ rfl
      exact R_x (k := 2) W (by unfold F_packed; rw [if_neg c0', if_pos hk]) (by decide)
    | true =>
      obtain ⟨na, nb, nc⟩ := s_keyB_na hk
      have hp1 : p1 = nI p1.toInt.toNat := nI_ofN (by have := Int32.le_iff_toInt_le.mp c0; simpa using this)
      have hlt : p1.toInt.toNat < 2 ^ 31 := by have := Int32.toInt_lt p1; omega
      have hj : p1 / 3 = nI (p1.toInt.toNat / 3) := by
        have := nI_div (a := p1.toInt.toNat) (b := 3) hlt (by decide)
        rw [← hp1] at this
        exact this
      have key := pk_at (j := p1.toInt.toNat / 3) hk (by omega)
      rw [← hj] at key
      have hF : ∀ v, f_pk a1 b1 c1 p1 = v → F_packed M a1 b1 c1 p1 = (M, 0, v) := fun v hv => by
        unfold F_packed; rw [if_neg c0', if_neg (by rw [hk]; decide), hv]
      refine bX11_packed_15 (c_X11_requireKey ok hk) ?_
      rintro _ hh
      rw [hh]
      refine bX11_packed_21 (c_X11_lastPlace ok) ?_
      rintro _ _ ⟨hh, rfl⟩
      rw [hh]
      refine bX11_packed_30 (fun c2 => ?_) (fun c2 => ?_)
      · obtain ⟨k1, k2⟩ := key.1 c2
        refine bX11_packed_36 (c_X11_codeOf ok na nb nc) ?_
        rintro _ _ ⟨hh, rfl⟩
        rw [hh]
        refine bX11_packed_42 (c_X11_numberOf ok (s_cd_lt na nb nc)) ?_
        rintro _ _ ⟨hh, rfl⟩
        rw [hh, k2]
        refine bX11_packed_49 (c_X11_byteOf ok) ?_
        rintro _ _ ⟨hh, rfl⟩
        rw [hh, pk_by k1]
        exact bX11_packed_56 (R_ok (W_le W (Nat.le_succ _)) (hF _ rfl))
      · have e := key.2 c2
        refine bX11_packed_33 (R_ok (W_le W (Nat.le_succ _)) (hF _ ?_))
        show (if pk_z a1 b1 c1 (p1 / 3) = 10000 then (-2147483648 : Int32) else _) = _
        rw [if_pos e]
  · exact bX11_packed_5 (R_x (k := 1) W (by unfold F_packed; rw [if_pos (Int32.not_le.mp c0)]) (by decide))
end CPK
end
section
/-! THE CLASS KEEPS CHANGES: change, clear, offer -/
theorem m_ins_iff {c : Nat} {KM : List k_K2} {x : k_K2} : x ∈ m_ins c KM ↔ (x ∈ KM ∨ (r_at c KM = none ∧ x = (c, 0))) := by
  unfold m_ins
  cases h : r_at c KM with
  | some q => simp
  | none =>
    simp only [Option.isSome_none, Bool.false_eq_true, if_false, true_and]
    rw [List.mem_insertIdx (r_pl_le c KM)]
    exact or_comm
theorem V_ins {c n : Nat} {KM : List k_K2} {L : List k_E4} (s : KM.Pairwise (fun x y => x.1 < y.1)) (hin : r_in KM L) : m_V (m_ins c KM) n L = m_V KM n L := by
  unfold m_V
  cases h : r_at c KM with
  | some q => unfold m_ins; rw [h]; rfl
  | none =>
    have s2 : (m_ins c KM).Pairwise (fun x y => x.1 < y.1) := by
      unfold m_ins
      rw [h]
      exact ins_srt s h
    refine srt_ext (List.pairwise_map.mpr (s2.sublist List.filter_sublist)) (List.pairwise_map.mpr (s.sublist List.filter_sublist)) fun x => ?_
    rw [List.mem_map, List.mem_map]
    constructor
    · rintro ⟨y, hy, rfl⟩
      obtain ⟨hy1, hy2⟩ := List.mem_filter.mp hy
      rcases m_ins_iff.mp hy1 with h1 | ⟨-, rfl⟩
      · exact ⟨y, List.mem_filter.mpr ⟨h1, hy2⟩, rfl⟩
      · rw [r_val_none s hin h] at hy2; cases hy2
    · rintro ⟨y, hy, rfl⟩
      obtain ⟨hy1, hy2⟩ := List.mem_filter.mp hy
      exact ⟨y, List.mem_filter.mpr ⟨m_ins_iff.mpr (Or.inl hy1), hy2⟩, rfl⟩
theorem V_kp {M : s_M} {t : Nat} {y : k_CH} (s : (g_E M).1.Pairwise (fun x y => x.1 < y.1)) (hin : r_in (g_E M).1 (g_E M).2.1) : g_V (g_kp M t y) = g_V M := by
  show m_V (if m_ck y < 6 then m_ins y.2.2.1 (g_E M).1 else (g_E M).1) (g_n M) (g_E M).2.1 = m_V (g_E M).1 (g_n M) (g_E M).2.1
  split
  · exact V_ins s hin
  · rfl
theorem kind6 {k : Int32} (hk : k = 0 ∨ k = 1 ∨ k = 2 ∨ k = 3 ∨ k = 4 ∨ k = 5) : k < 6 ∧ ¬ k = 6 ∧ ¬ k = 7 := by
  rcases hk with e | e | e | e | e | e <;> rw [e] <;> decide
theorem kp_E6 {M : s_M} {t : Nat} {y : k_CH} (h : ¬ m_ck y < 6) : g_E (g_kp M t y) = g_E M := by
  show ((if m_ck y < 6 then m_ins y.2.2.1 (g_E M).1 else (g_E M).1), (g_E M).2) = g_E M
  rw [if_neg h]
section CCH
variable {G : k_G} {l : Launch}
theorem C_keep (ok : k_ok G l) {a t N w c : Nat} {B : Nat × Nat} {h : k_H} {M : s_M} {k v : Int32} (W : c_W a B h M N w) (ht : t < 4) (hb : (g_X M t).1.1 = true) (hk : k = 0 ∨ k = 1 ∨ k = 2 ∨ k = 3 ∨ k = 4 ∨ k = 5) (hc : c < 1331000000000) (hlim : e_lim (g_E M)) (hl : (g_X M t).2.1.length + w ≤ 13300) :
    k_ctv (tX11_keep G l) [vR (some a), vR (some (a + c_T t)), vI k, vJ (lN c), vI v] h (fun h' => c_W a B h' (g_kp M t (g_ser M + 1, k, c, c + 1, v, 0)) (N + 1) w) := by
  obtain ⟨Q, S, PS, s, r, p, co⟩ := W
  obtain ⟨r1, r2, r3, r4, r5, r6, r7⟩ := id r
  obtain ⟨f0, f1, f2, f3, f4, f5, o11⟩ := sE_obj s
  obtain ⟨n9, E9, Es, Ein⟩ := sE_n s
  obtain ⟨k6, k66, k7⟩ := kind6 hk
  refine k_ctv_of (eX11_keep ok.2 (bX11_keep_0 r3 rfl (k_is_o o11) (c_E_keyFor ok s hc hlim) ?_))
  rintro h1 _ ⟨q, S1, rfl, s1, hS, m1⟩
  have q1 := rs_sto r s m1
  have co1 := co_mo co m1
  obtain ⟨r11, -⟩ := id q1
  obtain ⟨kept, o1, -⟩ := tx_obj r11 ht
  refine bX11_keep_8 (k_is_o o1) (c_X_keepKey ok (k := k) (v := v) r11 ht hb k7 ⟨by show c < c + 1; omega, by show c + 1 ≤ _; omega, Or.inl (by show ¬ 1 < c + 1 - c; omega), fun z => absurd z k66, fun z => absurd z k66⟩ hl) ?_
  rintro h2 ⟨x2, m2⟩
  have ec : m_ck (g_ser M + 1, k, c, c + 1, v, 0) = k := m_ck_kc _ (fun z => k66 z.1)
  have eE : g_E (g_kp M t (g_ser M + 1, k, c, c + 1, v, 0)) = (m_ins c (g_E M).1, (g_E M).2) := by
    show ((if m_ck (g_ser M + 1, k, c, c + 1, v, 0) < 6 then m_ins c (g_E M).1 else (g_E M).1), (g_E M).2) = _
    rw [ec, if_pos k6]
  obtain ⟨s2, q2⟩ := rs_tx (M' := g_kp M t (g_ser M + 1, k, c, c + 1, v, 0)) s1 q1 ht m2 (by simp) x2 ⟨rfl, rfl, rfl, rfl, rfl, rfl⟩
  exact bX11_keep_17 ⟨rfl, Q, S1, PS, by rw [eE]; exact s2, q2, ⟨p.1, by rw [V_kp Es Ein]; exact p.2⟩, co_le (co_mo co1 m2) (by omega)⟩
/-- a stamped key, a range -/
theorem W_kept {a t o N w : Nat} {B : Nat × Nat} {h h' : k_H} {M : s_M} {y : k_CH} (W : c_W a B h M N w) (ht : t < 4) (h6 : ¬ m_ck y < 6) (m : k_mo a [] (c_At a t) o h h') (x : c_TX a h' (X_up (g_X M) t ((g_X M t).1, (g_X M t).2.1 ++ [y], (g_X M t).2.2)) (g_ser M + 1) w) : c_W a B h' (g_kp M t y) (N + o) w := by
  obtain ⟨Q, S, PS, s, r, p, co⟩ := W
  obtain ⟨n9, E9, Es, Ein⟩ := sE_n s
  obtain ⟨s2, q2⟩ := rs_tx (M' := g_kp M t y) s r ht m (by simp) x ⟨rfl, rfl, rfl, rfl, rfl, rfl⟩
  exact ⟨Q, S, PS, by rw [kp_E6 h6]; exact s2, q2, ⟨p.1, by rw [V_kp Es Ein]; exact p.2⟩, co_le (co_mo co m) (by omega)⟩
theorem C_keepStamped (ok : k_ok G l) {a t N w c : Nat} {B : Nat × Nat} {h : k_H} {M : s_M} {v p1 : Int32} (W : c_W a B h M N w) (ht : t < 4) (hb : (g_X M t).1.1 = true) (hc : c < 1331000000000) (hp : s_pl p1 = s_stp (m_ck (0, 6, c, c + 1, v, p1)) c) (h4 : c / 121000000 = 996 → c = s_cd (-4) 0 (s_no c 2)) (hl : (g_X M t).2.1.length + w ≤ 13300) :
    k_ctv (tX9_keepStamped G l) [vR (some (a + c_T t)), vJ (lN c), vI p1, vI v] h (fun h' => c_W a B h' (g_kp M t (g_ser M + 1, 6, c, c + 1, v, p1)) (N + 1) w) := by
  obtain ⟨Q, S, PS, s, r, p, co⟩ := id W
  obtain ⟨h', tr, x, m⟩ := c_X_keepStamped ok (v := v) (p := p1) r.1 ht hb ⟨by show c < c + 1; omega, by show c + 1 ≤ _; omega, Or.inl (by show ¬ 1 < c + 1 - c; omega), fun _ => hp, fun _ => h4⟩ hl
  refine ⟨h', tr, W_kept W ht ?_ m x⟩
  unfold m_ck
  show ¬ (if (6 : Int32) = 1 ∧ 1 < c + 1 - c then (7 : Int32) else if (6 : Int32) = 6 ∧ c / 121000000 = 996 then 8 else 6) < 6
  rw [if_neg (fun z => absurd z.1 (by decide))]
  split <;> decide
theorem C_keepRange (ok : k_ok G l) {a t N w c d : Nat} {B : Nat × Nat} {h : k_H} {M : s_M} (W : c_W a B h M N w) (ht : t < 4) (hb : (g_X M t).1.1 = true) (hcd : 1 < d - c) (hd : d ≤ 1331000000000) (hl : (g_X M t).2.1.length + w ≤ 13300) :
    k_ctv (tX9_keepRange G l) [vR (some (a + c_T t)), vJ (lN c), vJ (lN d)] h (fun h' => c_W a B h' (g_kp M t (g_ser M + 1, 1, c, d, 0, 0)) (N + 1) w) := by
  obtain ⟨Q, S, PS, s, r, p, co⟩ := id W
  obtain ⟨h', tr, x, m⟩ := c_X_keepRange ok r.1 ht hb ⟨by show c < d; omega, hd, Or.inr rfl, fun z => absurd z (show ¬ (1 : Int32) = 6 by decide), fun z => absurd z (show ¬ (1 : Int32) = 6 by decide)⟩ hl
  refine ⟨h', tr, W_kept W ht ?_ m x⟩
  unfold m_ck
  rw [if_pos ⟨rfl, hcd⟩]
  decide
/-- how many changes are told -/
theorem W_told {a t N w : Nat} {B : Nat × Nat} {h : k_H} {M : s_M} {y : k_CH} (W : c_W a B h (g_kp M t y) N w) (ht : t < 4) (hb : (g_X M t).1.1 = true) : ∃ fs, h.1 (a + c_T t) = some (k_o 12 fs) ∧ fs[7]? = some (vI (nI ((g_X M t).2.1.length + 1))) := by
  obtain ⟨Q, S, PS, s, r, p, co⟩ := W
  obtain ⟨kept, o, hk⟩ := tx_obj r.1 ht
  have hX : g_X (g_kp M t y) t = ((g_X M t).1, (g_X M t).2.1 ++ [y], (g_X M t).2.2) := by
    show (if t = t then _ else _) = _
    rw [if_pos rfl]
  rw [hX] at hk o
  have := hk hb
  rw [List.length_append, List.length_singleton] at this
  exact ⟨_, o, by rw [← this]; rfl⟩
theorem g_shutF {M : s_M} {t : Nat} (h : g_shut M t = false) : (g_X M t).1.1 = true ∧ (g_X M t).2.1.length < 12 := by
  unfold g_shut at h
  rw [Bool.or_eq_false_iff] at h
  exact ⟨by simpa using h.1, by have := h.2; simp at this; omega⟩
theorem C_change (ok : k_ok G l) {a N w : Nat} {B : Nat × Nat} {h : k_H} {M : s_M} {x k a1 b1 c1 v : Int32} (W : c_W a B h M N w) (hlim : e_lim (g_E M)) (hw : w ≤ 13000) (hl9 : ∀ t, t < 4 → (g_X M t).2.1.length < 2 ^ 20) :
    k_ct (tX11_change G l) [vR (some a), vI x, vI k, vI a1, vI b1, vI c1, vI v] h (c_R a B (F_change M x k a1 b1 c1 v) x_3 (N + 1) w) := by
  obtain ⟨Q, S, PS, s, r, p, co⟩ := id W
  obtain ⟨r1, r2, r3, r4, r5, r6, r7⟩ := id r
  refine eX11_change ok.2 ?_
  cases hin : s_inB x 0 3 with
  | false =>
    refine bX11_change_0x (k_is_o r3) (c_trAtX ok r3 r4 hin) ?_
    rintro _ rfl
    exact R_x (k := 1) W (by unfold F_change; rw [if_pos hin]) (by decide)
  | true =>
    obtain ⟨t, ht, rfl, e9⟩ := s_in4 hin
    have e9 : t_of (nI t) = t := e9
    refine bX11_change_0 (k_is_o r3) (c_trAt ok r3 r4 r1 ht) ?_
    rintro _ _ ⟨hh, rfl⟩
    rw [hh]
    have F2 : (s_inB k 0 6 && (decide (k = 1) || decide (k = 5) || s_inB v (-1000000) 1000000) && s_keyB a1 b1 c1 && !s_inB a1 (-7) (-1)) = false → F_change M (nI t) k a1 b1 c1 v = (M, 2, 0) := fun hc => by
      unfold F_change; rw [if_neg (by rw [hin]; decide), if_pos hc]
    have bad17 : s_inB k 0 6 = false → k_X (jX11_change G l h) h 17 [] [] (c_R a B (F_change M (nI t) k a1 b1 c1 v) x_3 (N + 1) w) := fun hc =>
      bX11_change_17 (R_x (k := 2) W (F2 (by rw [hc]; rfl)) (by decide))
    refine bX11_change_5 (fun c => bad17 ?_) (fun c2 => bX11_change_11 (fun c3 => ?_) (fun c => bad17 ?_))
    · unfold s_inB; rw [decide_eq_false (by simpa using c), Bool.false_and]
    · have hk6 : s_inB k 0 6 = true := by unfold s_inB; rw [decide_eq_true c2, decide_eq_true (Int32.not_lt.mpr c3)]; rfl
      have rest : (decide (k = 1) || decide (k = 5) || s_inB v (-1000000) 1000000) = true → k_X (jX11_change G l h) h 61 [(0, vR (some a)), (2, vI k), (3, vI a1), (4, vI b1), (5, vI c1), (6, vI v), (7, vR (some (a + c_T t)))] [] (c_R a B (F_change M (nI t) k a1 b1 c1 v) x_3 (N + 1) w) := by
        intro hv
        cases hk : s_keyB a1 b1 c1 with
        | false =>
          refine bX11_change_61x (x_X11_requireKey ok hk) ?_
          rintro _ rfl
          exact R_x (k := 2) W (F2 (by rw [hk, Bool.and_false, Bool.false_and])) (by decide)
        | true =>
          refine bX11_change_61 (c_X11_requireKey ok hk) ?_
          rintro _ hh
          rw [hh]
          obtain ⟨na, nb, nc⟩ := s_keyB_na hk
          have hcd := s_cd_lt na nb nc
          cases hla : s_inB a1 (-7) (-1) with
          | true =>
            refine bX11_change_69x (x_X11_requireAboveLayers ok (fun z => z ?_)) ?_
            · unfold s_inB at hla
              simp only [Bool.and_eq_true, decide_eq_true_eq, Int32.not_lt] at hla
              exact hla
            rintro _ rfl
            exact R_x (k := 2) W (F2 (by rw [hla, Bool.not_true, Bool.and_false])) (by decide)
          | false =>
            refine bX11_change_69 (c_X11_requireAboveLayers ok (fun z => ?_)) ?_
            · unfold s_inB at hla
              rw [decide_eq_true (Int32.not_lt.mpr z.1), decide_eq_true (Int32.not_lt.mpr z.2)] at hla
              cases hla
            rintro _ hh
            rw [hh]
            have hall : ¬ (s_inB k 0 6 && (decide (k = 1) || decide (k = 5) || s_inB v (-1000000) 1000000) && s_keyB a1 b1 c1 && !s_inB a1 (-7) (-1)) = false := by
              rw [hk6, hv, hk, hla]; decide
            cases hsh : g_shut M t with
            | true =>
              refine bX11_change_73x (c_roomX ok r1 ht (hl9 t ht) hsh) ?_
              rintro _ rfl
              exact R_x (k := 3) W (by unfold F_change; rw [if_neg (by rw [hin]; decide), if_neg hall, e9, if_pos hsh]) (by decide)
            | false =>
              obtain ⟨hb, hl⟩ := g_shutF hsh
              have hF : F_change M (nI t) k a1 b1 c1 v = (g_kp M t (g_ser M + 1, k, s_cd a1 b1 c1, s_cd a1 b1 c1 + 1, v, if k = 6 then s_last b1 c1 else 0), 0, nI ((g_X M t).2.1.length + 1)) := by
                unfold F_change; rw [if_neg (by rw [hin]; decide), if_neg hall, e9, if_neg (by rw [hsh]; decide)]
              refine bX11_change_73 (c_room ok r1 ht hb hl) ?_
              rintro _ hh
              rw [hh]
              obtain ⟨kept, o12, -⟩ := tx_obj r1 ht
              refine bX11_change_78 (c_X11_codeOf ok na nb nc) ?_
              rintro _ _ ⟨hh, rfl⟩
              rw [hh]
              refine bX11_change_86 (fun c6 => ?_) (fun c6 => ?_)
              · have hk5 : k = 0 ∨ k = 1 ∨ k = 2 ∨ k = 3 ∨ k = 4 ∨ k = 5 := by
                  rcases s_in6 hk6 with e | e | e | e | e | e | e
                  · exact Or.inl e
                  · exact Or.inr (Or.inl e)
                  · exact Or.inr (Or.inr (Or.inl e))
                  · exact Or.inr (Or.inr (Or.inr (Or.inl e)))
                  · exact Or.inr (Or.inr (Or.inr (Or.inr (Or.inl e))))
                  · exact Or.inr (Or.inr (Or.inr (Or.inr (Or.inr e))))
                  · exact absurd e c6
                rw [if_neg c6] at hF
                refine bX11_change_113 (k_is_o r3) (C_keep ok W ht hb hk5 hcd hlim (by omega)) ?_
                rintro h2 W2
                obtain ⟨fs, o2, g2⟩ := W_told W2 ht hb
                exact bX11_change_124 o2 g2 (R_ok W2 hF)
              · rw [if_pos c6] at hF
                refine bX11_change_94 (c_X11_lastPlace ok) ?_
                rintro _ _ ⟨hh, rfl⟩
                rw [hh]
                have hn4 := s_lay na nb nc hla
                refine bX11_change_105 (k_is_o o12) (C_keepStamped ok W ht hb hcd ?_ (fun z => absurd z hn4) (by omega)) ?_
                · rw [m_ck_kc _ (fun z => hn4 z.2)]
                  unfold s_stp s_last
                  rw [if_neg (show ¬ (6 : Int32) = 8 by decide), s_no_1 na nb nc, s_no_2 na nb nc]
                  by_cases hb1 : b1 = 10000
                  · rw [if_pos hb1, if_pos hb1]; rfl
                  · rw [if_neg hb1, if_neg hb1]
                    by_cases hc1 : c1 = 10000
                    · rw [if_pos hc1, if_pos hc1]; rfl
                    · rw [if_neg hc1, if_neg hc1]; rfl
                rintro h2 W2
                rw [c6] at hF
                obtain ⟨fs, o2, g2⟩ := W_told W2 ht hb
                refine bX11_change_110 (bX11_change_124 o2 g2 ?_)
                rw [c6]
                exact R_ok W2 hF
      refine bX11_change_27 (fun c => rest ?_) (fun c4 => bX11_change_32 (fun c => rest ?_) (fun c5 => ?_))
      · rw [decide_eq_true c]; rfl
      · rw [decide_eq_true c, Bool.or_true, Bool.true_or]
      · have bad51 : s_inB v (-1000000) 1000000 = false → k_X (jX11_change G l h) h 51 [] [] (c_R a B (F_change M (nI t) k a1 b1 c1 v) x_3 (N + 1) w) := fun hc =>
          bX11_change_51 (R_x (k := 2) W (F2 (by rw [hc, decide_eq_false c4, decide_eq_false c5, Bool.or_false, Bool.or_false, Bool.and_false, Bool.false_and, Bool.false_and])) (by decide))
        refine bX11_change_37 (fun c => bad51 ?_) (fun c6 => bX11_change_44 (fun c => rest ?_) (fun c => bad51 ?_))
        · unfold s_inB; rw [decide_eq_false (by simpa using c), Bool.false_and]
        · have : s_inB v (-1000000) 1000000 = true := by unfold s_inB; rw [decide_eq_true c6, decide_eq_true (Int32.not_lt.mpr c)]; rfl
          rw [this, Bool.or_true]
        · unfold s_inB; rw [decide_eq_false (show ¬ ¬ (1000000 : Int32) < v from fun z => c (Int32.not_lt.mp z)), Bool.and_false]
    · unfold s_inB; rw [decide_eq_false (show ¬ ¬ (6 : Int32) < k from fun z => c (Int32.not_lt.mp z)), Bool.and_false]
theorem C_clear (ok : k_ok G l) {a N w : Nat} {B : Nat × Nat} {h : k_H} {M : s_M} {x a1 b1 : Int32} (W : c_W a B h M N w) (hw : w ≤ 13000) (hl9 : ∀ t, t < 4 → (g_X M t).2.1.length < 2 ^ 20) :
    k_ct (tX11_clear G l) [vR (some a), vI x, vI a1, vI b1] h (c_R a B (F_clear M x a1 b1) x_3 (N + 1) w) := by
  obtain ⟨Q, S, PS, s, r, p, co⟩ := id W
  obtain ⟨r1, r2, r3, r4, r5, r6, r7⟩ := id r
  refine eX11_clear ok.2 ?_
  cases hin : s_inB x 0 3 with
  | false =>
    refine bX11_clear_0x (k_is_o r3) (c_trAtX ok r3 r4 hin) ?_
    rintro _ rfl
    exact R_x (k := 1) W (by unfold F_clear; rw [if_pos hin]) (by decide)
  | true =>
    obtain ⟨t, ht, rfl, e9⟩ := s_in4 hin
    have e9 : t_of (nI t) = t := e9
    refine bX11_clear_0 (k_is_o r3) (c_trAt ok r3 r4 r1 ht) ?_
    rintro _ _ ⟨hh, rfl⟩
    rw [hh]
    have F2 : (s_rngB a1 b1 && !(decide (a1 = 10000)) && !s_inB a1 (-7) (-1)) = false → F_clear M (nI t) a1 b1 = (M, 2, 0) := fun hc => by
      unfold F_clear; rw [if_neg (by rw [hin]; decide), if_pos hc]
    cases hk : s_rngB a1 b1 with
    | false =>
      refine bX11_clear_5x (x_X11_requireRange ok hk) ?_
      rintro _ rfl
      exact R_x (k := 2) W (F2 (by rw [hk]; rfl)) (by decide)
    | true =>
      refine bX11_clear_5 (c_X11_requireRange ok hk) ?_
      rintro _ hh
      rw [hh]
      refine bX11_clear_12 (fun c0 => ?_) (fun c0 => bX11_clear_19 (R_x (k := 2) W (F2 (by rw [decide_eq_true c0, Bool.not_true, Bool.and_false, Bool.false_and])) (by decide)))
      obtain ⟨na, nb⟩ := s_rngB_na hk
      obtain ⟨hl1, hl2, hl3, hl4⟩ := s_hi_la na nb
      cases hla : s_inB a1 (-7) (-1) with
      | true =>
        refine bX11_clear_29x (x_X11_requireAboveLayers ok (fun z => z ?_)) ?_
        · unfold s_inB at hla
          simp only [Bool.and_eq_true, decide_eq_true_eq, Int32.not_lt] at hla
          exact hla
        rintro _ rfl
        exact R_x (k := 2) W (F2 (by rw [hla, Bool.not_true, Bool.and_false])) (by decide)
      | false =>
        refine bX11_clear_29 (c_X11_requireAboveLayers ok (fun z => ?_)) ?_
        · unfold s_inB at hla
          rw [decide_eq_true (Int32.not_lt.mpr z.1), decide_eq_true (Int32.not_lt.mpr z.2)] at hla
          cases hla
        rintro _ hh
        rw [hh]
        have hall : ¬ (s_rngB a1 b1 && !(decide (a1 = 10000)) && !s_inB a1 (-7) (-1)) = false := by
          rw [hk, hla, decide_eq_false c0]; decide
        cases hsh : g_shut M t with
        | true =>
          refine bX11_clear_33x (c_roomX ok r1 ht (hl9 t ht) hsh) ?_
          rintro _ rfl
          exact R_x (k := 3) W (by unfold F_clear; rw [if_neg (by rw [hin]; decide), if_neg hall, e9, if_pos hsh]) (by decide)
        | false =>
          obtain ⟨hb, hl⟩ := g_shutF hsh
          have ehi : s_la a1 b1 + 1 = s_hi a1 b1 ∧ 1 < s_hi a1 b1 - s_lo a1 b1 := by
            unfold s_la s_hi s_lo
            rw [if_neg c0, if_neg c0, if_neg c0]
            split <;> omega
          have hF : F_clear M (nI t) a1 b1 = (g_kp M t (g_ser M + 1, 1, s_lo a1 b1, s_hi a1 b1, 0, 0), 0, nI ((g_X M t).2.1.length + 1)) := by
            unfold F_clear; rw [if_neg (by rw [hin]; decide), if_neg hall, e9, if_neg (by rw [hsh]; decide), ehi.1]
          refine bX11_clear_33 (c_room ok r1 ht hb hl) ?_
          rintro _ hh
          rw [hh]
          obtain ⟨kept, o12, -⟩ := tx_obj r1 ht
          refine bX11_clear_38 (c_X11_lowOf ok na nb) ?_
          rintro _ _ ⟨hh, rfl⟩
          rw [hh]
          refine bX11_clear_45 (c_X11_highOf ok na nb) ?_
          rintro _ _ ⟨hh, rfl⟩
          rw [hh]
          refine bX11_clear_50 (k_is_o o12) (C_keepRange ok W ht hb ehi.2 hl2 (by omega)) ?_
          rintro h2 W2
          obtain ⟨fs, o2, g2⟩ := W_told W2 ht hb
          exact bX11_clear_53 o2 g2 (R_ok W2 hF)
theorem C_offer (ok : k_ok G l) {a N w : Nat} {B : Nat × Nat} {h : k_H} {M : s_M} {x v : Int32} (W : c_W a B h M N w) (hw : w ≤ 13000) (hl9 : ∀ t, t < 4 → (g_X M t).2.1.length < 2 ^ 20) :
    k_ct (tX11_offer G l) [vR (some a), vI x, vI v] h (c_R a B (F_offer M x v) x_3 (N + 1) w) := by
  obtain ⟨Q, S, PS, s, r, p, co⟩ := id W
  obtain ⟨r1, r2, r3, r4, r5, r6, r7⟩ := id r
  refine eX11_offer ok.2 ?_
  cases hin : s_inB x 0 3 with
  | false =>
    refine bX11_offer_0x (k_is_o r3) (c_trAtX ok r3 r4 hin) ?_
    rintro _ rfl
    exact R_x (k := 1) W (by unfold F_offer; rw [if_pos hin]) (by decide)
  | true =>
    obtain ⟨t, ht, rfl, e9⟩ := s_in4 hin
    have e9 : t_of (nI t) = t := e9
    refine bX11_offer_0 (k_is_o r3) (c_trAt ok r3 r4 r1 ht) ?_
    rintro _ _ ⟨hh, rfl⟩
    rw [hh]
    have bad : s_inB v 0 1000000 = false → k_X (jX11_offer G l h) h 16 [] [] (c_R a B (F_offer M (nI t) v) x_3 (N + 1) w) := fun hc =>
      bX11_offer_16 (R_x (k := 2) W (by unfold F_offer; rw [if_neg (by rw [hin]; decide), if_pos hc]) (by decide))
    refine bX11_offer_5 (fun c => bad ?_) (fun c2 => bX11_offer_10 (fun c3 => ?_) (fun c => bad ?_))
    · unfold s_inB; rw [decide_eq_false (by simpa using c), Bool.false_and]
    · have hv : s_inB v 0 1000000 = true := by unfold s_inB; rw [decide_eq_true c2, decide_eq_true (Int32.not_lt.mpr c3)]; rfl
      cases hsh : g_shut M t with
      | true =>
        refine bX11_offer_26x (c_roomX ok r1 ht (hl9 t ht) hsh) ?_
        rintro _ rfl
        exact R_x (k := 3) W (by unfold F_offer; rw [if_neg (by rw [hin]; decide), if_neg (by rw [hv]; decide), e9, if_pos hsh]) (by decide)
      | false =>
        obtain ⟨hb, hl⟩ := g_shutF hsh
        have hF : F_offer M (nI t) v = (g_kp M t (g_ser M + 1, 6, s_cd (-5) 0 10000, s_cd (-5) 0 10000 + 1, v, 1), 0, nI ((g_X M t).2.1.length + 1)) := by
          unfold F_offer; rw [if_neg (by rw [hin]; decide), if_neg (by rw [hv]; decide), e9, if_neg (by rw [hsh]; decide)]
        refine bX11_offer_26 (c_room ok r1 ht hb hl) ?_
        rintro _ hh
        rw [hh]
        obtain ⟨kept, o12, -⟩ := tx_obj r1 ht
        have n5 : s_na (-5) := Or.inr (by unfold s_nm; decide)
        have n0 : s_na 0 := Or.inr (by unfold s_nm; decide)
        refine bX11_offer_30 (c_X11_codeOf_ ok n5 n0) ?_
        rintro _ _ ⟨hh, rfl⟩
        rw [hh]
        have ec : s_cd (-5) 0 10000 = 120406000000 := by decide
        refine bX11_offer_37 (k_is_o o12) (C_keepStamped ok W ht hb (by rw [ec]; decide) (by rw [ec, m_ck_kc _ (fun z => absurd z.2 (show ¬ 120406000000 / 121000000 = 996 by decide))]; decide) (by rw [ec]; intro z; exact absurd z (by decide)) (by omega)) ?_
        rintro h2 W2
        obtain ⟨fs, o2, g2⟩ := W_told W2 ht hb
        exact bX11_offer_42 o2 g2 (R_ok W2 hF)
    · unfold s_inB; rw [decide_eq_false (show ¬ ¬ (1000000 : Int32) < v from fun z => c (Int32.not_lt.mp z)), Bool.and_false]
end CCH
end
