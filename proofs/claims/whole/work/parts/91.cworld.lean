/-! THE CLASS'S WHOLE WORLD, AS ONE PREDICATE -/
def c_ob (a : Nat) (h : k_H) (M : s_M) : Prop := h.1 a = some (k_o 14 [vR (some (a + 1)), vR (some (a + 6)), vR (some (a + 10)), vR (some (a + 11)), vR (some (a + 12)), vR (some (a + 13)), vR (some (a + 14)), vR (some (a + 15)), vI (nI (g_MK M).length), vI (nI (g_gen M)), vI (nI (g_los M)), vI (g_why M), vI (nI ((g_DS M).2 - 1))])
def c_cl (a : Nat) (h : k_H) : Prop := (∃ z : Option Int32 × Bool, h.1 (a + 10) = some (o_cel z.1 z.2)) ∧ (∃ cap, h.1 (a + 11) = some (k_l [a + 16, a + 20, a + 23, a + 26] cap)) ∧ ∃ ys cap, h.1 (a + 12) = some (k_l ys cap)
def c_mk (a : Nat) (h : k_H) (MK : List Nat) : Prop := ∃ f : Nat → Int32, h.1 (a + 15) = some (k_i 10 f) ∧ ∀ (i v : Nat), MK[i]? = some v → f i = nI v
def c_dr (a : Nat) (h : k_H) (D : List s_D) : Prop := ∃ (da : Nat → Nat) (cap : Nat), h.1 (a + 13) = some (k_l (D.map (fun x => da x.1)) cap) ∧ (∀ x ∈ D, h.1 (da x.1) = some (k_o 5 [vI (nI x.1), vI (nI x.2.2.2), vR (x.2.1.map da), vI (nI x.2.2.1)])) ∧ ∀ x ∈ D, ∀ y ∈ D, da x.1 = da y.1 → x.1 = y.1
def c_wa (a : Nat) (h : k_H) (WT : List (Nat × Int32)) (Q : List k_K2) : Prop := ∃ (WA : List Nat) (cap : Nat), h.1 (a + 14) = some (k_l WA cap) ∧ (WA.length = WT.length ∧ Q.length = WT.length ∧ WA.Nodup) ∧ ∀ (i b : Nat) (w : Nat × Int32) (q : k_K2), WA[i]? = some b → WT[i]? = some w → Q[i]? = some q → q.1 = w.1 ∧ h.1 b = some (k_o 13 [vR (some q.2), vI w.2])
/-- frames -/
theorem ob_fr {a : Nat} {K : List Nat} {A : Nat → Prop} {h h' : k_H} {M : s_M} (b : c_ob a h M) (m : k_fr K A h h') (hK : 14 ∉ K) (hA : ¬ A a) : c_ob a h' M := m _ _ b hA (fun ci fs e => by cases e; exact hK)
theorem cl_fr {a : Nat} {K : List Nat} {A : Nat → Prop} {h h' : k_H} (b : c_cl a h) (m : k_fr K A h h') (hK : 3 ∉ K) (hA : ¬ A (a + 10) ∧ ¬ A (a + 11) ∧ ¬ A (a + 12)) : c_cl a h' := by
  obtain ⟨⟨z, b1⟩, ⟨cap, b2⟩, ys, cap2, b3⟩ := b
  exact ⟨⟨z, m _ _ b1 hA.1 (fun ci fs e => by cases e; exact hK)⟩, ⟨cap, m _ _ b2 hA.2.1 (fun ci fs e => by cases e)⟩, ys, cap2, m _ _ b3 hA.2.2 (fun ci fs e => by cases e)⟩
theorem mk_fr {a : Nat} {K : List Nat} {A : Nat → Prop} {h h' : k_H} {MK : List Nat} (b : c_mk a h MK) (m : k_fr K A h h') (hA : ¬ A (a + 15)) : c_mk a h' MK := by
  obtain ⟨f, b1, b2⟩ := b
  exact ⟨f, m _ _ b1 hA (fun ci fs e => by cases e), b2⟩
theorem dr_fr {a : Nat} {K : List Nat} {A : Nat → Prop} {h h' : k_H} {D : List s_D} (b : c_dr a h D) (m : k_fr K A h h') (hK : 5 ∉ K) (hA : ¬ A (a + 13)) (hO : ∀ q fs, h.1 q = some (k_o 5 fs) → ¬ A q) : c_dr a h' D := by
  obtain ⟨da, cap, b1, b2, b3⟩ := b
  exact ⟨da, cap, m _ _ b1 hA (fun ci fs e => by cases e), fun x hx => m _ _ (b2 x hx) (hO _ _ (b2 x hx)) (fun ci fs e => by cases e; exact hK), b3⟩
theorem wa_fr {a : Nat} {K : List Nat} {A : Nat → Prop} {h h' : k_H} {WT : List (Nat × Int32)} {Q : List k_K2} (b : c_wa a h WT Q) (m : k_fr K A h h') (hK : 13 ∉ K) (hA : ¬ A (a + 14)) (hO : ∀ q fs, h.1 q = some (k_o 13 fs) → ¬ A q) : c_wa a h' WT Q := by
  obtain ⟨WA, cap, b1, b2, b3⟩ := b
  exact ⟨WA, cap, m _ _ b1 hA (fun ci fs e => by cases e), b2, fun i b w q h1 h2 h3 => ⟨(b3 i b w q h1 h2 h3).1, m _ _ (b3 i b w q h1 h2 h3).2 (hO _ _ (b3 i b w q h1 h2 h3).2) (fun ci fs e => by cases e; exact hK)⟩⟩
theorem pa_fr {a o : Nat} {K : List Nat} {A : Nat → Prop} {h h' : k_H} {PS : List k_PT} (b : c_pa a h PS) (m : k_mo a K A o h h') (hK : 8 ∉ K ∧ 9 ∉ K) (hA : ¬ A (a + 6) ∧ ¬ A (a + 7)) (hO : ∀ q fs, h.1 q = some (k_o 8 fs) → ¬ A q) : c_pa a h' PS := by
  obtain ⟨b1, ⟨cap, p1, p2, p3⟩, b3, b4, b5⟩ := b
  exact ⟨m.1 _ _ b1 hA.1 (fun ci fs e => by cases e; exact hK.2), ⟨cap, m.1 _ _ p1 hA.2 (fun ci fs e => by cases e), fun y hy => ⟨m.1 _ _ (p2 y hy).1 (hO _ _ (p2 y hy).1) (fun ci fs e => by cases e; exact hK.1), (p2 y hy).2⟩, p3⟩, b3, Nat.le_trans b4 m.2.2.1, m.2.1 b5⟩
theorem st_fr {a o : Nat} {K : List Nat} {A : Nat → Prop} {h h' : k_H} {KS : List k_K2} {L : List k_E4} {WS : List k_SP} {n : Nat} {z : Option Int32 × Bool} (b : c_st a h KS L WS n z) (m : k_mo a K A o h h') (hK : 3 ∉ K ∧ 6 ∉ K ∧ 7 ∉ K ∧ 10 ∉ K ∧ 11 ∉ K) (hA : ∀ i, 0 < i → i < 6 → ¬ A (a + i)) (hO : ∀ q ci fs, h.1 q = some (k_o ci fs) → ci = 6 ∨ ci = 7 ∨ ci = 10 → ¬ A q) : c_st a h' KS L WS n z := by
  obtain ⟨cK, cW, cH, xs, ka, ⟨s1, s2, s3, s4, s5⟩, ⟨t1, t2, t3, t4⟩, tL, tW, tn, ta, tw⟩ := b
  have o6 : ∀ (q : Nat) (fs : List k_V), h.1 q = some (k_o 6 fs) → h'.1 q = some (k_o 6 fs) := fun q fs hq => m.1 _ _ hq (hO _ _ _ hq (by simp)) (fun ci fs e => by cases e; exact hK.2.1)
  exact ⟨cK, cW, cH, xs, ka, ⟨m.1 _ _ s1 (hA 1 (by omega) (by omega)) (fun ci fs e => by cases e; exact hK.2.2.2.2), m.1 _ _ s2 (hA 2 (by omega) (by omega)) (fun ci fs e => by cases e), m.1 _ _ s3 (hA 3 (by omega) (by omega)) (fun ci fs e => by cases e), m.1 _ _ s4 (hA 4 (by omega) (by omega)) (fun ci fs e => by cases e), m.1 _ _ s5 (hA 5 (by omega) (by omega)) (fun ci fs e => by cases e; exact hK.1)⟩, ⟨⟨fun x hx => ⟨(t1.1 x hx).1, m.1 _ _ (t1.1 x hx).2 (hO _ _ _ (t1.1 x hx).2 (by simp)) (fun ci fs e => by cases e; exact hK.2.2.1)⟩, t1.2⟩, t2, r_log_keep6 o6 t3, t4⟩, tL, fun x hx => ⟨m.1 _ _ (tW x hx).1 (hO _ _ _ (tW x hx).1 (by simp)) (fun ci fs e => by cases e; exact hK.2.2.2.1), (tW x hx).2⟩, tn, Nat.le_trans ta m.2.2.1, m.2.1 tw⟩
theorem sE_fr {a o : Nat} {K : List Nat} {A : Nat → Prop} {h h' : k_H} {E : e_S} {n S : Nat} {Q : List k_K2} (b : c_sE a h E n Q S) (m : k_mo a K A o h h') (hK : 3 ∉ K ∧ 6 ∉ K ∧ 7 ∉ K ∧ 10 ∉ K ∧ 11 ∉ K) (hA : ∀ i, 0 < i → i < 6 → ¬ A (a + i)) (hO : ∀ q ci fs, h.1 q = some (k_o ci fs) → ci = 6 ∨ ci = 7 ∨ ci = 10 → ¬ A q) : c_sE a h' E n Q S := by
  obtain ⟨KS, L, WS, z, st, r, q, e⟩ := b
  exact ⟨KS, L, WS, z, st_fr st m hK hA hO, r, q, e⟩
theorem sE_A5 {a : Nat} {h : k_H} {E : e_S} {n S : Nat} {Q : List k_K2} (b : c_sE a h E n Q S) {q ci : Nat} {fs : List k_V} (hq : h.1 q = some (k_o ci fs)) (hc : ci ≠ 3) : ¬ c_A5 a q := by
  obtain ⟨KS, L, WS, z, ⟨cK, cW, cH, xs, ka, ⟨s1, s2, s3, s4, s5⟩, -⟩, -⟩ := b
  rintro (e | e | e | e)
  · rw [e, s2] at hq; cases hq
  · rw [e, s3] at hq; cases hq
  · rw [e, s4] at hq; cases hq
  · rw [e, s5] at hq; cases hq; exact hc rfl
