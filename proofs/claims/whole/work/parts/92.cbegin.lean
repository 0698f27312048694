/-! THE CLASS'S WORLD AND THE STATE; transactions begin -/
def c_rs (a : Nat) (h : k_H) (M : s_M) (Q : List k_K2) (w : Nat) (PS : List k_PT) : Prop := c_TX a h (g_X M) (g_ser M) w ∧ c_pa a h PS ∧ c_ob a h M ∧ c_cl a h ∧ c_mk a h (g_MK M) ∧ c_dr a h (g_DS M).1 ∧ c_wa a h (g_WT M) Q
def c_co (a : Nat) (B : Nat × Nat) (h : k_H) (T : Nat) : Prop := h.2.1 ≤ B.1 + kT kg1 a h + T ∧ h.2.2 ≤ B.2 + kT kg2 a h + 6 * T ∧ ∀ i, i < 31 → kcp (h.1 (a + i)) ≤ k_bd i
def g_V (M : s_M) : List Nat := m_V (g_E M).1 (g_n M) (g_E M).2.1
def c_W (a : Nat) (B : Nat × Nat) (h : k_H) (M : s_M) (N w : Nat) : Prop := ∃ (Q : List k_K2) (S : Nat) (PS : List k_PT), c_sE a h (g_E M) (g_n M) Q S ∧ c_rs a h M Q w PS ∧ (PS.map k_pr = g_PT M ∧ p_ho (g_V M) (g_V M).length PS) ∧ c_co a B h (S + N)
theorem co_mo {a o T : Nat} {B : Nat × Nat} {K : List Nat} {A : Nat → Prop} {h h' : k_H} (c : c_co a B h T) (m : k_mo a K A o h h') : c_co a B h' (T + o) := by
  obtain ⟨c1, c2, c3⟩ := c
  obtain ⟨m1, m2, m3, m4, m5, m6⟩ := m
  exact ⟨by omega, by omega, fun i hi => m6 i hi (c3 i hi)⟩
theorem rs_fr {a o w : Nat} {K : List Nat} {A : Nat → Prop} {h h' : k_H} {M : s_M} {Q : List k_K2} {PS : List k_PT} (r : c_rs a h M Q w PS) (m : k_mo a K A o h h') (hK : ∀ k ∈ K, k = 6 ∨ k = 7 ∨ k = 11) (hA : ∀ i, i < 31 → i = 0 ∨ 5 < i → ¬ A (a + i)) (hO : ∀ q ci fs, h.1 q = some (k_o ci fs) → ci ≠ 3 → ¬ A q) : c_rs a h' M Q w PS := by
  obtain ⟨r1, r2, r3, r4, r5, r6, r7⟩ := r
  have nk : ∀ k, k ≠ 6 → k ≠ 7 → k ≠ 11 → k ∉ K := fun k h1 h2 h3 z => by rcases hK k z with e | e | e; exact h1 e; exact h2 e; exact h3 e
  exact ⟨TX_fr r1 m ⟨nk 4 (by decide) (by decide) (by decide), nk 10 (by decide) (by decide) (by decide), nk 12 (by decide) (by decide) (by decide)⟩ (fun q ci fs hq hc => hO q ci fs hq (by rcases hc with e | e <;> rw [e] <;> decide)) (fun i h1 h2 => hA i h2 (Or.inr (by omega))),
    pa_fr r2 m ⟨nk 8 (by decide) (by decide) (by decide), nk 9 (by decide) (by decide) (by decide)⟩ ⟨hA 6 (by decide) (Or.inr (by decide)), hA 7 (by decide) (Or.inr (by decide))⟩ (fun q fs hq => hO q 8 fs hq (by decide)),
    ob_fr r3 m.1 (nk 14 (by decide) (by decide) (by decide)) (hA 0 (by decide) (Or.inl rfl)),
    cl_fr r4 m.1 (nk 3 (by decide) (by decide) (by decide)) ⟨hA 10 (by decide) (Or.inr (by decide)), hA 11 (by decide) (Or.inr (by decide)), hA 12 (by decide) (Or.inr (by decide))⟩,
    mk_fr r5 m.1 (hA 15 (by decide) (Or.inr (by decide))),
    dr_fr r6 m.1 (nk 5 (by decide) (by decide) (by decide)) (hA 13 (by decide) (Or.inr (by decide))) (fun q fs hq => hO q 5 fs hq (by decide)),
    wa_fr r7 m.1 (nk 13 (by decide) (by decide) (by decide)) (hA 14 (by decide) (Or.inr (by decide))) (fun q fs hq => hO q 13 fs hq (by decide))⟩
/-- a move of the store -/
theorem rs_sto {a o w n S : Nat} {h h' : k_H} {M : s_M} {E : e_S} {Q Q' : List k_K2} {PS : List k_PT} (r : c_rs a h M Q w PS) (e : c_sE a h E n Q' S) (m : k_mo a [6, 7, 11] (c_A5 a) o h h') : c_rs a h' M Q w PS :=
  rs_fr r m (fun k hk => by simpa using hk) (fun i hi hc z => by rcases z with z | z | z | z <;> omega) (fun q ci fs hq hc => sE_A5 e hq hc)
/-- nothing of the world moves -/
theorem W_still {a o N w : Nat} {B : Nat × Nat} {h h' : k_H} {M : s_M} (W : c_W a B h M N w) (m : k_mo a [] (fun _ => False) o h h') : c_W a B h' M (N + o) w := by
  obtain ⟨Q, S, PS, s, r, p, c⟩ := W
  refine ⟨Q, S, PS, sE_fr s m (by simp) (fun _ _ _ z => z) (fun _ _ _ _ _ z => z), rs_fr r m (fun k hk => by cases hk) (fun _ _ _ z => z) (fun _ _ _ _ _ z => z), p, ?_⟩
  have := co_mo c m
  rw [Nat.add_assoc] at this
  exact this
theorem W_sk {a N w : Nat} {B : Nat × Nat} {h : k_H} {M : s_M} (W : c_W a B h M N w) : c_W a B (k_sk h 1 6) M (N + 1) w := W_still W mv_sk
def x_IO : String := "java/lang/IndexOutOfBoundsException"
def x_IA : String := "java/lang/IllegalArgumentException"
def x_IS : String := "java/lang/IllegalStateException"
/-- how a call ends: R is what the state's function says, X its exceptions -/
def c_R (a : Nat) (B : Nat × Nat) (R : s_M × Nat × Int32) (X : Nat → String) (N w : Nat) : k_H → k_R → Prop := fun h' r => c_W a B h' R.1 N w ∧ r = if R.2.1 = 0 then .inl (some (vI R.2.2)) else .inr (X R.2.1)
def c_Rv (a : Nat) (B : Nat × Nat) (R : s_M × Nat × Int32) (X : Nat → String) (N w : Nat) : k_H → k_R → Prop := fun h' r => c_W a B h' R.1 N w ∧ r = if R.2.1 = 0 then .inl none else .inr (X R.2.1)
section CBG
variable {G : k_G} {l : Launch}
theorem c_trAt (ok : k_ok G l) {a t : Nat} {h : k_H} {M : s_M} (hob : c_ob a h M) (hcl : c_cl a h) {ser w : Nat} {X : Nat → s_X} (hX : c_TX a h X ser w) (ht : t < 4) : k_ctr (tX11_transactionAt G l) [vR (some a), vI (nI t)] h (fun h' v => h' = h ∧ v = some (a + c_T t)) := by
  obtain ⟨-, ⟨cap, l1⟩, -⟩ := hcl
  obtain ⟨CXf, b1, -⟩ := hX
  obtain ⟨RS, c, cR, kept, o1, -⟩ := b1 t ht
  have hg : [a + 16, a + 20, a + 23, a + 26][t]? = some (a + c_T t) := by
    have : t = 0 ∨ t = 1 ∨ t = 2 ∨ t = 3 := by omega
    rcases this with rfl | rfl | rfl | rfl <;> rfl
  have isl : k_is h (a + 11) 2 := Or.inr ⟨rfl, _, _, l1⟩
  refine k_ctr_of (eX11_transactionAt ok.2 (bX11_transactionAt_0 (fun z => absurd ((nI_ltI (b := 0) (by omega) (by omega)).mp z) (by omega)) (fun _ => bX11_transactionAt_4 hob rfl isl (c_size ok l1) ?_)))
  rintro _ _ ⟨hh, rfl⟩
  rw [hh]
  refine bX11_transactionAt_12 (fun _ => bX11_transactionAt_26 hob rfl isl (c_get ok l1 hg) ?_) (fun z => absurd ((nI_ltI (b := 4) (by omega) (by omega)).mpr ht) z)
  rintro _ _ ⟨hh, rfl⟩
  rw [hh]
  exact bX11_transactionAt_34 o1 ⟨_, rfl, rfl, rfl⟩
theorem c_trAtX (ok : k_ok G l) {a : Nat} {h : k_H} {M : s_M} {x : Int32} (hob : c_ob a h M) (hcl : c_cl a h) (hx : s_inB x 0 3 = false) : k_ctx (tX11_transactionAt G l) [vR (some a), vI x] h x_IO (fun h' => h' = k_sk h 1 6) := by
  obtain ⟨-, ⟨cap, l1⟩, -⟩ := hcl
  have isl : k_is h (a + 11) 2 := Or.inr ⟨rfl, _, _, l1⟩
  refine k_ctx_of (eX11_transactionAt ok.2 (bX11_transactionAt_0 (fun _ => bX11_transactionAt_15 ⟨rfl, rfl⟩) (fun c1 => bX11_transactionAt_4 hob rfl isl (c_size ok l1) ?_)))
  rintro _ _ ⟨hh, rfl⟩
  rw [hh]
  refine bX11_transactionAt_12 (fun c2 => ?_) (fun _ => bX11_transactionAt_15 ⟨rfl, rfl⟩)
  exfalso
  unfold s_inB at hx
  rw [decide_eq_true c1, Bool.true_and, decide_eq_false_iff_not, Classical.not_not] at hx
  have h1 := Int32.lt_iff_toInt_lt.mp hx
  have h2 := Int32.lt_iff_toInt_lt.mp c2
  have e1 : (3 : Int32).toInt = 3 := by decide
  have e2 : (nI [a + 16, a + 20, a + 23, a + 26].length).toInt = 4 := by
    show (nI 4).toInt = 4
    decide
  omega
theorem c_begin (ok : k_ok G l) {a N w : Nat} {B : Nat × Nat} {h : k_H} {M : s_M} {x : Int32} {once : Bool} (W : c_W a B h M N w) : k_ct (tX11_begin G l) [vR (some a), vI x, vI (kB once)] h (c_R a B (F_begin M x once) (fun _ => x_IO) (N + 1) w) := by
  obtain ⟨Q, S, PS, s, r, p, c⟩ := id W
  obtain ⟨r1, r2, r3, r4, r5, r6, r7⟩ := id r
  refine eX11_begin ok.2 ?_
  cases hin : s_inB x 0 3 with
  | false =>
    refine bX11_begin_0x (k_is_o r3) (c_trAtX ok r3 r4 hin) ?_
    rintro _ rfl
    have hF : F_begin M x once = (M, 1, 0) := by unfold F_begin; rw [if_pos hin]
    rw [hF]
    exact ⟨W_sk W, rfl⟩
  | true =>
    obtain ⟨t, ht, rfl, e9⟩ := s_in4 hin
    have hF : F_begin M (nI t) once = (g_tx M t ((true, once, g_n M, g_gen M, 0), [], []), 0, nI (g_n M)) := by
      unfold F_begin
      rw [hin, if_neg (by decide)]
      have : t_of (nI t) = t := e9
      rw [this]
    rw [hF]
    refine bX11_begin_0 (k_is_o r3) (c_trAt ok r3 r4 r1 ht) ?_
    rintro _ _ ⟨hh, rfl⟩
    rw [hh]
    obtain ⟨KS, L, WS, z, st, -⟩ := id s
    have o12 : ∃ fs, h.1 (a + c_T t) = some (k_o 12 fs) := by
      obtain ⟨CXf, b1, -⟩ := r1
      obtain ⟨RS, c, cR, kept, o1, -⟩ := b1 t ht
      exact ⟨_, o1⟩
    obtain ⟨fs12, o12⟩ := o12
    refine bX11_begin_5 r3 rfl (st_obj st) rfl rfl (k_is_o o12) (c_X_start ok (v := g_n M) (g := g_gen M) (once := once) r1 ht) ?_
    rintro h1 ⟨x1, m1⟩
    have hT := c_T_lt ht
    have nA : ∀ i, i < 16 → ¬ c_At a t (a + i) := fun i hi z => by rcases z with z | z | z <;> omega
    have nO : ∀ q ci fs, h.1 q = some (k_o ci fs) → ci ≠ 12 → ¬ c_At a t q := fun q ci fs hq hc z => by
      obtain ⟨CXf, b1, -⟩ := r1
      obtain ⟨RS, c, cR, kept, o1, ⟨c1, c2, c3⟩, -⟩ := b1 t ht
      rcases z with z | z | z
      · rw [z, o1] at hq; cases hq; exact hc rfl
      · rw [z, c1.1] at hq; cases hq
      · rw [z, c2.1] at hq; cases hq
    have s1 := sE_fr s m1 (by simp) (fun i h1 h2 => nA i (by omega)) (fun q ci fs hq hc => nO q ci fs hq (by rcases hc with e | e | e <;> rw [e] <;> decide))
    obtain ⟨KS1, L1, WS1, z1, st1, -⟩ := id s1
    have r31 := ob_fr r3 m1.1 (by simp) (nA 0 (by omega))
    refine bX11_begin_22 r31 rfl (st_obj st1) rfl ⟨⟨Q, S, PS, s1, ⟨x1, pa_fr r2 m1 (by simp) ⟨nA 6 (by omega), nA 7 (by omega)⟩ (fun q fs hq => nO q 8 fs hq (by decide)), r31, cl_fr r4 m1.1 (by simp) ⟨nA 10 (by omega), nA 11 (by omega), nA 12 (by omega)⟩, mk_fr r5 m1.1 (nA 15 (by omega)), dr_fr r6 m1.1 (by simp) (nA 13 (by omega)) (fun q fs hq => nO q 5 fs hq (by decide)), wa_fr r7 m1.1 (by simp) (nA 14 (by omega)) (fun q fs hq => nO q 13 fs hq (by decide))⟩, p, ?_⟩, rfl⟩
    have := co_mo c (mv_mono m1 (fun _ h => h) (fun _ h => h) (Nat.zero_le 1))
    rw [Nat.add_assoc] at this
    exact this
end CBG
