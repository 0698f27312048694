section
/-! CREDITS: what open work may still name */ -/
def z_4 (f : Nat → Nat) : Nat := f 0 + f 1 + f 2 + f 3
theorem z4_up {f g : Nat → Nat} {t : Nat} (ht : t < 4) (h : ∀ u, ¬ u = t → g u = f u) : z_4 g + f t = z_4 f + g t := by
  unfold z_4
  have hc : t = 0 ∨ t = 1 ∨ t = 2 ∨ t = 3 := by omega
  rcases hc with rfl | rfl | rfl | rfl
  · rw [h 1 (by decide), h 2 (by decide), h 3 (by decide)]; omega
  · rw [h 0 (by decide), h 2 (by decide), h 3 (by decide)]; omega
  · rw [h 0 (by decide), h 1 (by decide), h 3 (by decide)]; omega
  · rw [h 0 (by decide), h 1 (by decide), h 2 (by decide)]; omega
theorem z4_le {f g : Nat → Nat} (h : ∀ u, g u ≤ f u) : z_4 g ≤ z_4 f := by
  unfold z_4
  have := h 0; have := h 1; have := h 2; have := h 3
  omega
def z_cr (n : Nat) (x : s_X) : Nat :=
  if 12 ≤ z_sum z_s6 x.2.1 then (if 30 < n - x.1.2.2.1 then 0 else 13 + 2 * (30 - (n - x.1.2.2.1)))
  else if x.2.1.length = z_sum z_s6 x.2.1 then max (z_sum z_s6 x.2.1) (11 * z_sum z_s6 x.2.1 - 49) else z_sum z_s6 x.2.1
theorem s6_le (l : List k_CH) : z_sum z_s6 l ≤ l.length := by
  have := zs_le z_s6 (b := 1) l (fun x _ => by unfold z_s6; split <;> omega)
  omega
theorem zcr_n {n m : Nat} (x : s_X) (h : n ≤ m) : z_cr m x ≤ z_cr n x := by
  unfold z_cr
  split
  · split
    · exact Nat.zero_le _
    · rw [if_neg (by omega)]
      omega
  · exact Nat.le_refl _
theorem zcr_nil {n : Nat} {x : s_X} (h : x.2.1 = []) : z_cr n x = 0 := by
  unfold z_cr
  rw [h]
  rfl
theorem zcr_hd {n : Nat} {x y : s_X} (h : x.2.1 = y.2.1) (h2 : x.1.2.2.1 = y.1.2.2.1) : z_cr n x = z_cr n y := by
  unfold z_cr
  rw [h, h2]
/-- a done commit that ends the transaction, and one that is lost -/
theorem zcr_end {n : Nat} {x : s_X} (h12 : z_sum z_s6 x.2.1 ≤ 12) (hd : ¬ 30 < n - x.1.2.2.1) : 2 * z_sum z_s6 x.2.1 ≤ z_cr n x + 11 := by
  unfold z_cr
  split
  · omega
  · split <;> omega
theorem zcr_lost {n : Nat} {x : s_X} (hra : x.1.2.2.1 ≤ n) (h12 : z_sum z_s6 x.2.1 ≤ 12) (hd : ¬ 30 < n - x.1.2.2.1) : z_cr (n + 1) x + 2 * z_sum z_s6 x.2.1 ≤ z_cr n x + 22 := by
  unfold z_cr
  split
  · split <;> omega
  · split <;> omega
/-- a change that is kept -/
theorem zcr_kp {n : Nat} {x x' : s_X} {y : k_CH} (hl : x.2.1.length < 12) (h2 : x'.1.2.2.1 = x.1.2.2.1) (h1 : x'.2.1 = x.2.1 ++ [y]) : z_cr n x' ≤ z_cr n x + 11 ∧ (¬ y.2.1 = 6 → z_cr n x' ≤ z_cr n x) := by
  have hs := s6_le x.2.1
  have e : z_sum z_s6 x'.2.1 = z_sum z_s6 x.2.1 + z_s6 y := by rw [h1, zs_app]; unfold z_sum; simp
  have el : x'.2.1.length = x.2.1.length + 1 := by rw [h1]; simp
  unfold z_cr
  rw [e, el, h2, show z_s6 y = if y.2.1 = 6 then 1 else 0 from rfl]
  by_cases c : y.2.1 = 6
  · simp only [if_pos c]
    refine ⟨?_, fun z => absurd c z⟩
    rw [if_neg (show ¬ 12 ≤ z_sum z_s6 x.2.1 by omega)]
    split
    · split
      · exact Nat.zero_le _
      · rw [if_pos (by omega)]; omega
    · split
      · rw [if_pos (by omega)]; omega
      · split <;> omega
  · simp only [if_neg c]
    have k : ∀ s : Nat, s = z_sum z_s6 x.2.1 → (if 12 ≤ s + 0 then (if 30 < n - x.1.2.2.1 then 0 else 13 + 2 * (30 - (n - x.1.2.2.1))) else if x.2.1.length + 1 = s + 0 then max (s + 0) (11 * (s + 0) - 49) else s + 0) ≤ (if 12 ≤ s then (if 30 < n - x.1.2.2.1 then 0 else 13 + 2 * (30 - (n - x.1.2.2.1))) else if x.2.1.length = s then max s (11 * s - 49) else s) := by
      intro s es
      rw [if_neg (show ¬ 12 ≤ s + 0 by omega), if_neg (show ¬ 12 ≤ s by omega), if_neg (show ¬ x.2.1.length + 1 = s + 0 by omega)]
      split <;> omega
    have := k _ rfl
    exact ⟨Nat.le_trans this (Nat.le_add_right _ _), fun _ => this⟩
/-- what a save makes -/
theorem zcr_sv {n : Nat} {x x' : s_X} (hl : x.2.1.length < 12) (h1 : z_sum z_s6 x'.2.1 ≤ z_sum z_s6 x.2.1 + 1) (h3 : z_sum z_s6 x'.2.1 < x'.2.1.length) : z_cr n x' ≤ z_cr n x + 1 := by
  have hs := s6_le x.2.1
  unfold z_cr
  split
  · split
    · exact Nat.zero_le _
    · rw [if_neg (by omega), if_pos (by omega)]
      omega
  · rw [if_neg (by omega), if_neg (by omega)]
    split <;> omega
def z_los (M : s_M) : Nat := if g_los M = 0 then 0 else 11
def z_C (M : s_M) : Nat := z_4 (fun t => z_cr (g_n M) (g_X M t)) + z_los M
/-- a: the calls that name; s: the commits since the last mark, or bringing back -/
def i_C (W S R : List Nat) (M : s_M) (a s : Nat) : Prop := 2 * W.length + 4 * R.length + z_C M ≤ 11 * a ∧ 2 * W.length + 4 * R.length + 2 * S.length + z_C M ≤ 11 * (a + s) ∧ (s = 0 → S = [])
theorem iC_le {W S R : List Nat} {M M' : s_M} {a s : Nat} (I : i_C W S R M a s) (h : z_C M' ≤ z_C M) : i_C W S R M' a s := ⟨by have := I.1; omega, by have := I.2.1; omega, I.2.2⟩
theorem iC_a {W S R : List Nat} {M : s_M} {a s : Nat} (I : i_C W S R M a s) : i_C W S R M (a + 1) s := ⟨by have := I.1; omega, by have := I.2.1; omega, I.2.2⟩
/-- one commit more, that makes S longer by k -/
theorem iC_s {W S R X : List Nat} {M M' : s_M} {a s : Nat} (I : i_C W S R M a s) (h : z_C M' ≤ z_C M) (h2 : z_C M' + 2 * X.length ≤ z_C M + 11) : i_C W (S ++ X) R M' a (s + 1) := by
  refine ⟨by have := I.1; omega, ?_, fun z => by omega⟩
  have := I.2.1
  rw [List.length_append]
  omega
theorem iC_mark {W S R : List Nat} {M M' : s_M} {a s : Nat} (I : i_C W S R M a s) (h : z_C M' = z_C M) : i_C (W ++ S) [] R M' (a + s) 0 := by
  have := I.2.1
  rw [← h] at this
  refine ⟨?_, ?_, fun _ => rfl⟩
  · rw [List.length_append]; omega
  · rw [List.length_append, List.length_nil]; omega
theorem iC_back {W S R : List Nat} {M M' : s_M} {a s : Nat} (I : i_C W S R M a s) (h : z_C M' ≤ z_C M) : i_C W [] R M' (a + (s - 1)) 0 := by
  have := I.1
  refine ⟨by omega, ?_, fun _ => rfl⟩
  rw [List.length_nil]; omega
theorem zC_tx {M : s_M} {t : Nat} {x : s_X} (ht : t < 4) {k : Nat} (h : z_cr (g_n M) x ≤ z_cr (g_n M) (g_X M t) + k) : z_C (g_tx M t x) ≤ z_C M + k := by
  unfold z_C
  have e := z4_up (f := fun u => z_cr (g_n M) (g_X M u)) (g := fun u => z_cr (g_n M) (g_X (g_tx M t x) u)) ht (fun u hu => by show z_cr _ (if u = t then x else g_X M u) = _; rw [if_neg hu])
  have e2 : z_cr (g_n M) (g_X (g_tx M t x) t) = z_cr (g_n M) x := by show z_cr _ (if t = t then x else g_X M t) = _; rw [if_pos rfl]
  have e3 : z_los (g_tx M t x) = z_los M := rfl
  rw [e3]
  show z_4 (fun u => z_cr (g_n M) (g_X (g_tx M t x) u)) + _ ≤ _
  rw [e2] at e
  omega
theorem zC_n {M : s_M} (M' : s_M) (h1 : g_n M ≤ g_n M') (h2 : g_X M' = g_X M) (h3 : g_los M' = g_los M) : z_C M' ≤ z_C M := by
  unfold z_C z_los
  rw [h2, h3]
  have := z4_le (f := fun u => z_cr (g_n M) (g_X M u)) (g := fun u => z_cr (g_n M') (g_X M u)) (fun u => zcr_n _ h1)
  omega
end
section
/-! WHICH KEYS MAY HAVE A VALUE, NOW AND AT MARKS */ -/
theorem nd_len : ∀ {l m : List Nat}, l.Pairwise (fun x y => ¬ x = y) → (∀ x ∈ l, x ∈ m) → l.length ≤ m.length := by
  intro l
  induction l with
  | nil => intro m _ _; exact Nat.zero_le _
  | cons x l ih =>
    intro m hn h
    obtain ⟨h1, h2⟩ := List.pairwise_cons.mp hn
    have hx := h x List.mem_cons_self
    have := ih (m := m.erase x) h2 (fun y hy => (List.mem_erase_of_ne (fun e => h1 y hy e.symm)).mpr (h y (List.mem_cons_of_mem _ hy)))
    rw [List.length_erase_of_mem hx] at this
    have hp := List.length_pos_of_mem hx
    rw [List.length_cons]
    omega
def z_bm (V R : List Nat) (c : Nat) : Prop := ∃ v ∈ V, ∃ k ∈ R, c = s_cd (-4) (nI v) (nI k)
def z_sn (V : List Nat) (L : List k_E4) (v : Nat) : Prop := ∀ k, k < 100 → ∀ v1 ∈ V, (r_val (s_cd (-4) (nI v1) (nI k)) v L).isSome = true →
  (∀ v2 ∈ V, (r_val (s_cd (-4) (nI v2) (nI k)) v L).isSome = true → v1 = v2) ∧ (o_told (r_val (sv_co 2) v L) = -2147483648 ∨ nI k ≤ o_told (r_val (sv_co 2) v L))
def i_V (W S R V : List Nat) (n : Nat) (L : List k_E4) (MK : List Nat) : Prop :=
  (∀ c, (r_val c n L).isSome = true → c ∈ W ∨ c ∈ S ∨ z_bm V R c) ∧ (∀ v ∈ MK, ∀ c, (r_val c v L).isSome = true → c ∈ W ∨ z_bm V R c) ∧
  ((∀ v ∈ V, v ≤ n) ∧ (∀ k ∈ R, k < 100)) ∧ z_sn V L n ∧ ∀ v ∈ MK, z_sn V L v
theorem bm_mono {V R V' R' : List Nat} (hV : ∀ v ∈ V, v ∈ V') (hR : ∀ v ∈ R, v ∈ R') {c : Nat} (h : z_bm V R c) : z_bm V' R' c := by
  obtain ⟨v, hv, k, hk, e⟩ := h
  exact ⟨v, hV v hv, k, hR k hk, e⟩
theorem iV_mono {W S R V W' R' : List Nat} {n : Nat} {L : List k_E4} {MK : List Nat} (I : i_V W S R V n L MK) (hW : ∀ c ∈ W, c ∈ W') (hR : ∀ c ∈ R, c ∈ R') (hk : ∀ k ∈ R', k < 100) : i_V W' S R' V n L MK := by
  obtain ⟨h1, h2, h3, h4⟩ := I
  refine ⟨fun c hc => ?_, fun v hv c hc => ?_, ⟨h3.1, hk⟩, h4⟩
  · rcases h1 c hc with h | h | h
    · exact Or.inl (hW c h)
    · exact Or.inr (Or.inl h)
    · exact Or.inr (Or.inr (bm_mono (fun _ h => h) hR h))
  · rcases h2 v hv c hc with h | h
    · exact Or.inl (hW c h)
    · exact Or.inr (bm_mono (fun _ h => h) hR h)
theorem sn_cg {V : List Nat} {L L' : List k_E4} {v w : Nat} (h : z_sn V L v) (e : ∀ c, r_val c w L' = r_val c v L) : z_sn V L' w := by
  intro k hk v1 h1 hl
  rw [e] at hl ⊢
  obtain ⟨g1, g2⟩ := h k hk v1 h1 hl
  exact ⟨fun v2 h2 hl2 => g1 v2 h2 (by rw [e] at hl2; exact hl2), g2⟩
theorem iV_adv {W S R V : List Nat} {n m : Nat} {L : List k_E4} {MK : List Nat} (I : i_V W S R V n L MK) (h : ∀ x ∈ L, x.2.2.1 ≤ n) (hnm : n ≤ m) : i_V W S R V m L MK := by
  obtain ⟨h1, h2, h3, h4, h5⟩ := I
  have e : ∀ c, r_val c m L = r_val c n L := fun c => r_val_adv h hnm
  exact ⟨fun c hc => h1 c (by rw [← e]; exact hc), h2, ⟨fun v hv => Nat.le_trans (h3.1 v hv) hnm, h3.2⟩, sn_cg h4 e, h5⟩
theorem iV_mark {W S R V : List Nat} {n : Nat} {L : List k_E4} {MK : List Nat} (I : i_V W S R V n L MK) : i_V (W ++ S) [] R V n L (MK ++ [n]) := by
  obtain ⟨h1, h2, h3, h4, h5⟩ := I
  have g : ∀ c, (r_val c n L).isSome = true → c ∈ W ++ S ∨ z_bm V R c := fun c hc => by
    rcases h1 c hc with h | h | h
    · exact Or.inl (List.mem_append.mpr (Or.inl h))
    · exact Or.inl (List.mem_append.mpr (Or.inr h))
    · exact Or.inr h
  refine ⟨fun c hc => ?_, fun v hv c hc => ?_, h3, h4, fun v hv => ?_⟩
  · rcases g c hc with h | h
    · exact Or.inl h
    · exact Or.inr (Or.inr h)
  · rcases List.mem_append.mp hv with hv | hv
    · rcases h2 v hv c hc with h | h
      · exact Or.inl (List.mem_append.mpr (Or.inl h))
      · exact Or.inr h
    · have : v = n := by simpa using hv
      rw [this] at hc
      exact g c hc
  · rcases List.mem_append.mp hv with hv | hv
    · exact h5 v hv
    · have : v = n := by simpa using hv
      rw [this]
      exact h4
/-- bringing back -/
theorem iV_back {W S R V : List Nat} {n v : Nat} {L L' : List k_E4} {MK : List Nat} (I : i_V W S R V n L MK) (hv : v ∈ MK) (hM : ∀ u ∈ MK, u ≤ n) (e1 : ∀ c, r_val c (n + 1) L' = r_val c v L) (e2 : ∀ c u, u ≤ n → r_val c u L' = r_val c u L) : i_V W [] R V (n + 1) L' MK := by
  obtain ⟨h1, h2, h3, h4, h5⟩ := I
  refine ⟨fun c hc => ?_, fun u hu c hc => ?_, ⟨fun u hu => Nat.le_succ_of_le (h3.1 u hu), h3.2⟩, sn_cg (h5 v hv) e1, fun u hu => sn_cg (h5 u hu) (fun c => e2 c u (hM u hu))⟩
  · rw [e1] at hc
    rcases h2 v hv c hc with h | h
    · exact Or.inl h
    · exact Or.inr (Or.inr h)
  · rw [e2 c u (hM u hu)] at hc
    exact h2 u hu c hc
theorem m4_ly {v k : Nat} (hv : v < 9000) (hk : k < 100) : s_cd (-4) (nI v) (nI k) / 121000000 = 996 ∧ s_dig (s_cd (-4) (nI v) (nI k)) 1 = v + 1000 ∧ s_dig (s_cd (-4) (nI v) (nI k)) 2 = k + 1000 ∧ s_cd (-4) (nI v) (nI k) < 1331000000000 := by
  have n1 := na_100 hv
  have n2 : s_na (nI k) := na_100 (by omega)
  rw [s_cd_div n1 n2, cd_d1 n1 n2, cd_d2 n2, dg_nI hv, dg_nI (by omega)]
  exact ⟨rfl, rfl, rfl, s_cd_lt s_na_m4 n1 n2⟩
theorem co2_ly : sv_co 2 / 121000000 = 994 := by decide +kernel
/-- a commit -/
theorem iV_cm {W S R V S' : List Nat} {n k m f : Nat} {E E' : e_S} {MK : List Nat} {A : Nat → Int32 → Prop} {B : Nat → Prop} (I : i_V W S R V n E.2.1 MK) (hv : ∀ x ∈ E.2.1, x.2.2.1 ≤ n) (hn : n < 8999) (hM : ∀ u ∈ MK, u ≤ n) (z : z_P (n + 1) A B E E' k m f)
    (hA : ∀ c v, A c v → (c ∈ W ∨ c ∈ S') ∧ (c / 121000000 = 996 → s_dig c 1 = n + 1 + 1000) ∧ ¬ c = sv_co 2) (hB : ∀ c, B c → ¬ c = sv_co 2) (hS : ∀ c ∈ S, c ∈ S') : i_V W S' R V (n + 1) E'.2.1 MK := by
  obtain ⟨h1, h2, h3, h4, h5⟩ := I
  have adv : ∀ c, r_val c (n + 1) E.2.1 = r_val c n E.2.1 := fun c => r_val_adv hv (Nat.le_succ _)
  have ext : ∀ c u, u ≤ n → r_val c u E'.2.1 = r_val c u E.2.1 := fun c u hu => zP_ext z (by omega)
  have st : r_val (sv_co 2) (n + 1) E'.2.1 = r_val (sv_co 2) n E.2.1 := by
    rw [zP_out z (fun v a => (hA _ v a).2.2 rfl) (fun b => hB _ b rfl), adv]
  have old : ∀ v1 ∈ V, ∀ k, k < 100 → (r_val (s_cd (-4) (nI v1) (nI k)) (n + 1) E'.2.1).isSome = true → (r_val (s_cd (-4) (nI v1) (nI k)) n E.2.1).isSome = true := by
    intro v1 hv1 k hk hl
    have hle := h3.1 v1 hv1
    obtain ⟨l1, l2, -⟩ := m4_ly (v := v1) (k := k) (by omega) hk
    rcases zP_live z hl with h | ⟨-, w, a⟩
    · rw [adv] at h; exact h
    · have := (hA _ w a).2.1 l1
      omega
  refine ⟨fun c hc => ?_, fun u hu c hc => ?_, ⟨fun u hu => Nat.le_succ_of_le (h3.1 u hu), h3.2⟩, fun k hk v1 hv1 hl => ?_, fun u hu => sn_cg (h5 u hu) (fun c => ext c u (hM u hu))⟩
  · rcases zP_live z hc with h | ⟨-, w, a⟩
    · rw [adv] at h
      rcases h1 c h with h | h | h
      · exact Or.inl h
      · exact Or.inr (Or.inl (hS c h))
      · exact Or.inr (Or.inr h)
    · rcases (hA c w a).1 with h | h
      · exact Or.inl h
      · exact Or.inr (Or.inl h)
  · rw [ext c u (hM u hu)] at hc
    exact h2 u hu c hc
  · obtain ⟨g1, g2⟩ := h4 k hk v1 hv1 (old v1 hv1 k hk hl)
    rw [st]
    exact ⟨fun v2 hv2 hl2 => g1 v2 hv2 (old v2 hv2 k hk hl2), g2⟩
/-- the index 2 goes off -/
theorem iV_off {W S R V S' : List Nat} {n k m f : Nat} {E E' : e_S} {MK : List Nat} {A : Nat → Int32 → Prop} {B : Nat → Prop} (I : i_V W S R V n E.2.1 MK) (hv : ∀ x ∈ E.2.1, x.2.2.1 ≤ n) (hn : n < 8999) (hM : ∀ u ∈ MK, u ≤ n) (z : z_P (n + 1) A B E E' k m f)
    (hA : ∀ c v, A c v → c ∈ S') (hS : ∀ c ∈ S, c ∈ S') (h0 : ∀ c, c / 121000000 = 996 → r_val c (n + 1) E'.2.1 = none) : i_V W S' R V (n + 1) E'.2.1 MK := by
  obtain ⟨h1, h2, h3, h4, h5⟩ := I
  have adv : ∀ c, r_val c (n + 1) E.2.1 = r_val c n E.2.1 := fun c => r_val_adv hv (Nat.le_succ _)
  have ext : ∀ c u, u ≤ n → r_val c u E'.2.1 = r_val c u E.2.1 := fun c u hu => zP_ext z (by omega)
  refine ⟨fun c hc => ?_, fun u hu c hc => ?_, ⟨fun u hu => Nat.le_succ_of_le (h3.1 u hu), h3.2⟩, fun k hk v1 hv1 hl => ?_, fun u hu => sn_cg (h5 u hu) (fun c => ext c u (hM u hu))⟩
  · rcases zP_live z hc with h | ⟨-, w, a⟩
    · rw [adv] at h
      rcases h1 c h with h | h | h
      · exact Or.inl h
      · exact Or.inr (Or.inl (hS c h))
      · exact Or.inr (Or.inr h)
    · exact Or.inr (Or.inl (hA c w a))
  · rw [ext c u (hM u hu)] at hc
    exact h2 u hu c hc
  · have hle := h3.1 v1 hv1
    rw [h0 _ (m4_ly (v := v1) (k := k) (by omega) hk).1] at hl
    cases hl
/-- the index 2 is built -/
theorem iV_bld {W S R V S' : List Nat} {n k m f : Nat} {E E' : e_S} {MK : List Nat} {A : Nat → Int32 → Prop} {B : Nat → Prop} {st st' : Int32} (I : i_V W S R V n E.2.1 MK) (hv : ∀ x ∈ E.2.1, x.2.2.1 ≤ n) (hn : n < 8999) (hM : ∀ u ∈ MK, u ≤ n) (z : z_P (n + 1) A B E E' k m f)
    (hf : ∀ k v, k < 100 → r_val (s_cd (-4) (nI (n + 1)) (nI k)) v E.2.1 = none)
    (e0 : o_told (r_val (sv_co 2) n E.2.1) = st) (hst : ¬ st = -2147483648) (e1 : o_told (r_val (sv_co 2) (n + 1) E'.2.1) = st') (hle : st ≤ st')
    (hA : ∀ c v, A c v → c = sv_co 2 ∨ ∃ k, k < 100 ∧ k ∈ R ∧ c = s_cd (-4) (nI (n + 1)) (nI k) ∧ ¬ nI k ≤ st) (hk9 : ∀ k, k < 100 → (r_val (s_cd (-4) (nI (n + 1)) (nI k)) (n + 1) E'.2.1).isSome = true → nI k ≤ st')
    (hS : ∀ c ∈ S, c ∈ S') (hS2 : sv_co 2 ∈ S') : i_V W S' R ((n + 1) :: V) (n + 1) E'.2.1 MK := by
  obtain ⟨h1, h2, h3, h4, h5⟩ := I
  have adv : ∀ c, r_val c (n + 1) E.2.1 = r_val c n E.2.1 := fun c => r_val_adv hv (Nat.le_succ _)
  have ext : ∀ c u, u ≤ n → r_val c u E'.2.1 = r_val c u E.2.1 := fun c u hu => zP_ext z (by omega)
  have bmV : ∀ c, z_bm V R c → z_bm ((n + 1) :: V) R c := fun c => bm_mono (fun _ h => List.mem_cons_of_mem _ h) (fun _ h => h)
  have old : ∀ v1 ∈ V, ∀ k, k < 100 → (r_val (s_cd (-4) (nI v1) (nI k)) (n + 1) E'.2.1).isSome = true → (r_val (s_cd (-4) (nI v1) (nI k)) n E.2.1).isSome = true := by
    intro v1 hv1 k hk hl
    have hle := h3.1 v1 hv1
    obtain ⟨l1, l2, -⟩ := m4_ly (v := v1) (k := k) (by omega) hk
    rcases zP_live z hl with h | ⟨-, w, a⟩
    · rw [adv] at h; exact h
    · rcases hA _ w a with e | ⟨j, hj, -, e, -⟩
      · rw [e, co2_ly] at l1; cases l1
      · rw [e, (m4_ly (by omega) hj).2.1] at l2; omega
  have new : ∀ k, k < 100 → (r_val (s_cd (-4) (nI (n + 1)) (nI k)) (n + 1) E'.2.1).isSome = true → ¬ nI k ≤ st := by
    intro k hk hl
    obtain ⟨l1, l2, l3, -⟩ := m4_ly (v := n + 1) (k := k) (by omega) hk
    rcases zP_live z hl with h | ⟨-, w, a⟩
    · rw [hf k _ hk] at h; cases h
    · rcases hA _ w a with e | ⟨j, hj, -, e, g⟩
      · rw [e, co2_ly] at l1; cases l1
      · rw [e, (m4_ly (by omega) hj).2.2.1] at l3
        have : j = k := by omega
        rw [← this]
        exact g
  refine ⟨fun c hc => ?_, fun u hu c hc => ?_, ⟨fun u hu => ?_, h3.2⟩, fun k hk v1 hv1 hl => ?_, fun u hu => ?_⟩
  · rcases zP_live z hc with h | ⟨-, w, a⟩
    · rw [adv] at h
      rcases h1 c h with h | h | h
      · exact Or.inl h
      · exact Or.inr (Or.inl (hS c h))
      · exact Or.inr (Or.inr (bmV c h))
    · rcases hA c w a with e | ⟨j, hj, hR, e, -⟩
      · exact Or.inr (Or.inl (by rw [e]; exact hS2))
      · exact Or.inr (Or.inr ⟨n + 1, List.mem_cons_self, j, hR, e⟩)
  · rw [ext c u (hM u hu)] at hc
    rcases h2 u hu c hc with h | h
    · exact Or.inl h
    · exact Or.inr (bmV c h)
  · rcases List.mem_cons.mp hu with rfl | hu
    · exact Nat.le_refl _
    · exact Nat.le_succ_of_le (h3.1 u hu)
  · rw [e1]
    rcases List.mem_cons.mp hv1 with rfl | hv1'
    · refine ⟨fun v2 hv2 hl2 => ?_, Or.inr (hk9 k hk hl)⟩
      rcases List.mem_cons.mp hv2 with rfl | hv2
      · rfl
      · rcases (h4 k hk v2 hv2 (old v2 hv2 k hk hl2)).2 with g | g
        · rw [e0] at g; exact absurd g hst
        · rw [e0] at g; exact absurd g (new k hk hl)
    · obtain ⟨g1, g2⟩ := h4 k hk v1 hv1' (old v1 hv1' k hk hl)
      rw [e0] at g2
      have g3 : nI k ≤ st := by
        rcases g2 with g | g
        · exact absurd g hst
        · exact g
      refine ⟨fun v2 hv2 hl2 => ?_, Or.inr (Int32.le_trans g3 hle)⟩
      rcases List.mem_cons.mp hv2 with rfl | hv2
      · exact absurd g3 (new k hk hl2)
      · exact g1 v2 hv2 (old v2 hv2 k hk hl2)
  · have hu' := hM u hu
    have no : ∀ k, k < 100 → ¬ (r_val (s_cd (-4) (nI (n + 1)) (nI k)) u E'.2.1).isSome = true := fun k hk g => by
      rw [ext _ u hu', hf k u hk] at g; cases g
    intro k hk v1 hv1 hl
    rcases List.mem_cons.mp hv1 with rfl | hv1
    · exact absurd hl (no k hk)
    · obtain ⟨g1, g2⟩ := sn_cg (h5 u hu) (fun c => ext c u hu') k hk v1 hv1 hl
      refine ⟨fun v2 hv2 hl2 => ?_, g2⟩
      rcases List.mem_cons.mp hv2 with rfl | hv2
      · exact absurd hl2 (no k hk)
      · exact g1 v2 hv2 hl2
/-! .. how many -/
theorem ln_W {W : List Nat} {X : List k_K2} (s : X.Pairwise (fun x y => x.1 < y.1)) (h : ∀ x ∈ X, x.1 ∈ W) : X.length ≤ W.length := by
  have := nd_len (l := X.map (fun x => x.1)) (m := W) (List.pairwise_map.mpr (s.imp (fun {a b} h => by have h' : a.1 < b.1 := h; show ¬ a.1 = b.1; omega))) (fun c hc => by
    obtain ⟨x, hx, rfl⟩ := List.mem_map.mp hc
    exact h x hx)
  rw [List.length_map] at this
  exact this
theorem ln_R {V R : List Nat} {L : List k_E4} {v : Nat} {X : List k_K2} (hV : ∀ u ∈ V, u < 9000) (hR : ∀ k ∈ R, k < 100) (hs : z_sn V L v) (s : X.Pairwise (fun x y => x.1 < y.1)) (h : ∀ x ∈ X, z_bm V R x.1 ∧ (r_val x.1 v L).isSome = true) : X.length ≤ R.length := by
  have := nd_len (l := X.map (fun x => s_dig x.1 2)) (m := R.map (fun k => k + 1000)) (List.pairwise_map.mpr (s.imp_of_mem (fun {a b} ha hb hab e => by
    obtain ⟨⟨v1, m1, k1, n1, e1⟩, l1⟩ := h a ha
    obtain ⟨⟨v2, m2, k2, n2, e2⟩, l2⟩ := h b hb
    have d1 := (m4_ly (hV v1 m1) (hR k1 n1)).2.2.1
    have d2 := (m4_ly (hV v2 m2) (hR k2 n2)).2.2.1
    rw [e1, e2, d1, d2] at e
    have ek : k1 = k2 := by omega
    subst ek
    rw [e1] at l1
    rw [e2] at l2
    have := (hs k1 (hR k1 n1) v1 m1 l1).1 v2 m2 l2
    rw [e1, e2, this] at hab
    exact absurd hab (Nat.lt_irrefl _)))) (fun c hc => by
    obtain ⟨x, hx, rfl⟩ := List.mem_map.mp hc
    obtain ⟨⟨v1, m1, k1, n1, e1⟩, -⟩ := h x hx
    refine List.mem_map.mpr ⟨k1, n1, ?_⟩
    rw [e1, (m4_ly (hV v1 m1) (hR k1 n1)).2.2.1])
  rw [List.length_map, List.length_map] at this
  exact this
theorem ln_sp {α : Type} (p : α → Bool) (X : List α) : X.length = (X.filter p).length + (X.filter (fun x => !p x)).length := by
  induction X with
  | nil => rfl
  | cons x X ih =>
    rw [List.filter_cons, List.filter_cons, List.length_cons, ih]
    cases p x
    · simp; omega
    · simp; omega
/-- keys that have a value in one version -/
theorem ln_v {W R V : List Nat} {E : e_S} {v : Nat} (I : i_K E) (hV : ∀ u ∈ V, u < 9000) (hR : ∀ k ∈ R, k < 100) (hs : z_sn V E.2.1 v) (h : ∀ c, (r_val c v E.2.1).isSome = true → c ∈ W ∨ z_bm V R c) : (m_V E.1 v E.2.1).length ≤ W.length + R.length := by
  unfold m_V
  rw [List.length_map, ln_sp (fun x => decide (x.1 ∈ W)) (E.1.filter _)]
  have s : ∀ (p q : k_K2 → Bool), ((E.1.filter p).filter q).Pairwise (fun x y => x.1 < y.1) := fun p q => List.Pairwise.sublist (List.Sublist.trans List.filter_sublist List.filter_sublist) I.1
  have g1 := ln_W (W := W) (s (fun x => (r_val x.1 v E.2.1).isSome) (fun x => decide (x.1 ∈ W))) (fun x hx => by simpa using (List.mem_filter.mp hx).2)
  have g2 := ln_R (V := V) (R := R) (L := E.2.1) (v := v) hV hR hs (s (fun x => (r_val x.1 v E.2.1).isSome) (fun x => !decide (x.1 ∈ W))) (fun x hx => by
    obtain ⟨a, b⟩ := List.mem_filter.mp hx
    have a2 := (List.mem_filter.mp a).2
    refine ⟨?_, a2⟩
    rcases h x.1 a2 with z | z
    · simp [z] at b
    · exact z)
  omega
theorem ln_n {W S R V : List Nat} {n : Nat} {E : e_S} {MK : List Nat} (K : i_K E) (I : i_V W S R V n E.2.1 MK) (hn : n < 9000) : (m_V E.1 n E.2.1).length ≤ W.length + S.length + R.length := by
  have := ln_v (W := W ++ S) (R := R) (V := V) K (fun u hu => Nat.lt_of_le_of_lt (I.2.2.1.1 u hu) hn) I.2.2.1.2 I.2.2.2.1 (fun c hc => by
    rcases I.1 c hc with h | h | h
    · exact Or.inl (List.mem_append.mpr (Or.inl h))
    · exact Or.inl (List.mem_append.mpr (Or.inr h))
    · exact Or.inr h)
  rw [List.length_append] at this
  exact this
theorem ln_m {W S R V : List Nat} {n v : Nat} {E : e_S} {MK : List Nat} (K : i_K E) (I : i_V W S R V n E.2.1 MK) (hn : n < 9000) (hv : v ∈ MK) : (m_V E.1 v E.2.1).length ≤ W.length + R.length :=
  ln_v K (fun u hu => Nat.lt_of_le_of_lt (I.2.2.1.1 u hu) hn) I.2.2.1.2 (I.2.2.2.2 v hv) (I.2.1 v hv)
theorem dif_or {c v n : Nat} {L : List k_E4} (h : bb_oth L n v c = true) : (r_val c n L).isSome = true ∨ (r_val c v L).isSome = true := by
  unfold bb_oth bb_dif at h
  cases e1 : r_val c n L with
  | some x => exact Or.inl rfl
  | none =>
    cases e2 : r_val c v L with
    | some x => exact Or.inr rfl
    | none => rw [e1, e2] at h; exact absurd h (by decide)
/-- keys that a bringing back changes -/
theorem ln_b1 {M : s_M} {v : Nat} : (bb_list M v).length ≤ (m_V (g_E M).1 (g_n M) (g_E M).2.1).length + (m_V (g_E M).1 v (g_E M).2.1).length := by
  unfold bb_list m_V
  rw [List.length_map, List.length_map]
  induction (g_E M).1 with
  | nil => exact Nat.zero_le _
  | cons x K ih =>
    rw [List.filter_cons, List.filter_cons, List.filter_cons]
    by_cases h : bb_oth (g_E M).2.1 (g_n M) v x.1 = true
    · rw [if_pos h]
      rcases dif_or h with g | g
      · rw [if_pos g]
        split <;> simp only [List.length_cons] <;> omega
      · rw [if_pos g]
        split <;> simp only [List.length_cons] <;> omega
    · rw [if_neg h]
      split <;> split <;> (try simp only [List.length_cons]) <;> omega
theorem ln_b2 {W R V : List Nat} {M : s_M} {v : Nat} (K : i_K (g_E M)) (I : i_V W [] R V (g_n M) (g_E M).2.1 (g_MK M)) (hn : g_n M < 9000) (hv : v ∈ g_MK M) : (bb_list M v).length ≤ W.length + 2 * R.length := by
  have hV : ∀ u ∈ V, u < 9000 := fun u hu => Nat.lt_of_le_of_lt (I.2.2.1.1 u hu) hn
  have sb : ∀ p : k_K2 → Bool, ((bb_list M v).filter p).Pairwise (fun x y => x.1 < y.1) := fun p => List.Pairwise.sublist (List.Sublist.trans List.filter_sublist List.filter_sublist) K.1
  rw [ln_sp (fun x => decide (x.1 ∈ W)) (bb_list M v)]
  have g1 := ln_W (W := W) (sb (fun x => decide (x.1 ∈ W))) (fun x hx => by simpa using (List.mem_filter.mp hx).2)
  have e := ln_sp (fun x => (r_val x.1 (g_n M) (g_E M).2.1).isSome) ((bb_list M v).filter (fun x => !decide (x.1 ∈ W)))
  have sb2 : ∀ p q : k_K2 → Bool, (((bb_list M v).filter p).filter q).Pairwise (fun x y => x.1 < y.1) := fun p q => List.Pairwise.sublist List.filter_sublist (sb p)
  have out : ∀ x ∈ (bb_list M v).filter (fun x => !decide (x.1 ∈ W)), ¬ x.1 ∈ W ∧ bb_oth (g_E M).2.1 (g_n M) v x.1 = true := fun x hx => by
    obtain ⟨a, b⟩ := List.mem_filter.mp hx
    exact ⟨by simpa using b, (List.mem_filter.mp a).2⟩
  have g2 := ln_R (V := V) (R := R) (L := (g_E M).2.1) (v := g_n M) hV I.2.2.1.2 I.2.2.2.1 (sb2 (fun x => !decide (x.1 ∈ W)) (fun x => (r_val x.1 (g_n M) (g_E M).2.1).isSome)) (fun x hx => by
    obtain ⟨a, b⟩ := List.mem_filter.mp hx
    refine ⟨?_, b⟩
    rcases I.1 x.1 b with z | z | z
    · exact absurd z (out x a).1
    · cases z
    · exact z)
  have g3 := ln_R (V := V) (R := R) (L := (g_E M).2.1) (v := v) hV I.2.2.1.2 (I.2.2.2.2 v hv) (sb2 (fun x => !decide (x.1 ∈ W)) (fun x => !(r_val x.1 (g_n M) (g_E M).2.1).isSome)) (fun x hx => by
    obtain ⟨a, b⟩ := List.mem_filter.mp hx
    obtain ⟨o1, o2⟩ := out x a
    have hl : (r_val x.1 v (g_E M).2.1).isSome = true := by
      rcases dif_or o2 with z | z
      · rw [z] at b; cases b
      · exact z
    refine ⟨?_, hl⟩
    rcases I.2.1 v hv x.1 hl with z | z
    · exact absurd z o1
    · exact z)
  omega
end
section
/-! NUMBERS: the entries stay below 420000 -/
def i_T (s b C X y T lv : Nat) : Prop := (s = 0 ∧ T ≤ b * y + 42 * C + X) ∨ (0 < s ∧ T + lv ≤ (b + 1) * y + 42 * C + X)
theorem iT_y {s b C X y y' T lv : Nat} (I : i_T s b C X y T lv) (h : y ≤ y') : i_T s b C X y' T lv := by
  rcases I with ⟨h1, h2⟩ | ⟨h1, h2⟩
  · left; have := Nat.mul_le_mul_left b h; exact ⟨h1, by omega⟩
  · right; have := Nat.mul_le_mul_left (b + 1) h; exact ⟨h1, by omega⟩
theorem iT_cm {s b C X y T lv T' lv' k e : Nat} (I : i_T s b C X y T lv) (hl : s = 0 → lv ≤ y) (h : T' + lv' ≤ T + lv + k) (hk : k ≤ 42 + e) : i_T (s + 1) b (C + 1) (X + e) y T' lv' := by
  right
  refine ⟨by omega, ?_⟩
  rcases I with ⟨h1, h2⟩ | ⟨h1, h2⟩
  · have := hl h1
    rw [Nat.add_mul]
    omega
  · omega
theorem iT_mark {s b C X y T lv y' : Nat} (I : i_T s b C X y T lv) (h : y ≤ y') : i_T 0 (b + 1) C X y' T lv := by
  left
  refine ⟨rfl, ?_⟩
  have h3 := Nat.mul_le_mul_left (b + 1) h
  rcases I with ⟨h1, h2⟩ | ⟨h1, h2⟩
  · have h4 := Nat.mul_le_mul_left b h
    rw [Nat.add_mul]
    omega
  · omega
theorem iT_back {s b C X y T lv d lv' : Nat} (I : i_T s b C X y T lv) (h1 : s = 0 → d ≤ y) (h2 : d ≤ lv + y) : i_T 0 (b + (if s = 0 then 1 else 2)) C X y (T + d) lv' := by
  left
  refine ⟨rfl, ?_⟩
  rcases I with ⟨e1, e2⟩ | ⟨e1, e2⟩
  · have := h1 e1
    rw [if_pos e1, Nat.add_mul]
    omega
  · rw [if_neg (by omega), Nat.add_mul]
    rw [Nat.add_mul] at e2
    omega
theorem T_dec : ∀ b : Fin 513, 198 * ((b.val + 1) * (512 - b.val)) + 756 * (1024 - b.val) + 2 * ((1024 - b.val) * (1024 - b.val)) ≤ 15120000 := by decide +kernel
theorem sq_le {a b : Nat} (h : a ≤ b) : a * a ≤ b * b := Nat.mul_le_mul h h
theorem X_le {C p D X Z : Nat} (h1 : 2 * C + 2 * p ≤ Z) (h2 : D ≤ p) (h3 : X ≤ D * C) (h4 : 2 * X ≤ C * C) : 18 * X ≤ Z * Z := by
  have h5 : X ≤ p * C := Nat.le_trans h3 (Nat.mul_le_mul_right C h2)
  by_cases c : 3 * C ≤ Z
  · -- 2 X ≤ C C, 9 C C ≤ Z Z
    have := sq_le c
    have e : 3 * C * (3 * C) = 9 * (C * C) := by rw [Nat.mul_mul_mul_comm]
    rw [e] at this
    omega
  · -- Z < 3 C: p C ≤ (Z - 2 C) C / 2
    obtain ⟨u, hu⟩ : ∃ u, Z = 2 * C + 2 * p + u := ⟨Z - (2 * C + 2 * p), by omega⟩
    have hp : 2 * p + u < C := by omega
    obtain ⟨r, hr⟩ : ∃ r, C = 2 * p + u + r := ⟨C - (2 * p + u), by omega⟩
    subst hu
    subst hr
    have e1 : p * (2 * p + u + r) = 2 * (p * p) + p * u + p * r := by
      rw [Nat.mul_add, Nat.mul_add, Nat.mul_left_comm]
    have hz : 2 * (2 * p + u + r) + 2 * p + u = 6 * p + 3 * u + 2 * r := by omega
    rw [hz]
    have e2 : (6 * p + 3 * u + 2 * r) * (6 * p + 3 * u + 2 * r) = 36 * (p * p) + 36 * (p * u) + 24 * (p * r) + 9 * (u * u) + 12 * (u * r) + 4 * (r * r) := by
      grind
    rw [e2]
    rw [e1] at h5
    generalize p * p = pp at *
    generalize p * u = pu at *
    generalize p * r = pr at *
    omega
theorem T_max {a s b p C D X y T lv : Nat} (I : i_T s b C X y T lv) (h1 : a + s + b ≤ 512) (h2 : 2 * y ≤ 11 * a) (h3 : 2 * C + 2 * p ≤ 2 * a + 2 * s + b) (h4 : D ≤ p) (h5 : X ≤ D * C) (h6 : 2 * X ≤ C * C) : T ≤ 420000 := by
  have t : T ≤ (b + 1) * y + 42 * C + X := by
    rcases I with ⟨e1, e2⟩ | ⟨e1, e2⟩
    · rw [Nat.add_mul]; omega
    · omega
  have x := X_le h3 h4 h5 h6
  have z : 2 * a + 2 * s + b ≤ 1024 - b := by omega
  have x2 := Nat.le_trans x (sq_le z)
  have yb : 2 * ((b + 1) * y) ≤ 11 * ((b + 1) * (512 - b)) := by
    have g1 : (b + 1) * (2 * y) ≤ (b + 1) * (11 * (512 - b)) := Nat.mul_le_mul_left _ (by omega)
    rw [Nat.mul_left_comm (b + 1) 2 y, Nat.mul_left_comm (b + 1) 11] at g1
    exact g1
  have d := T_dec ⟨b, by omega⟩
  dsimp only at d
  generalize (b + 1) * y = u1 at *
  generalize (b + 1) * (512 - b) = u2 at *
  generalize (1024 - b) * (1024 - b) = u3 at *
  omega
/-! .. the numbers of calls -/
def i_N (i a s b p C D X : Nat) (M : s_M) : Prop := a + s + b ≤ i ∧ 2 * C + 2 * p ≤ 2 * a + 2 * s + b ∧ D + (if g_los M = 0 then 0 else 1) + z_4 (fun t => z_b (g_X M t).1.1) ≤ p ∧ X ≤ D * C ∧ 2 * X ≤ C * C ∧ p ≤ a ∧ p ≤ i ∧ C ≤ i
theorem iN_i {i a s b p C D X : Nat} {M M' : s_M} (I : i_N i a s b p C D X M) (h : (if g_los M' = 0 then 0 else 1) + z_4 (fun t => z_b (g_X M' t).1.1) ≤ (if g_los M = 0 then 0 else 1) + z_4 (fun t => z_b (g_X M t).1.1)) : i_N (i + 1) a s b p C D X M' := by
  obtain ⟨h1, h2, h3, h4, h5, h6, h7, h8⟩ := I
  exact ⟨by omega, h2, by omega, h4, h5, h6, by omega, by omega⟩
theorem iN_p {i a s b p C D X : Nat} {M M' : s_M} (I : i_N i a s b p C D X M) (h : (if g_los M' = 0 then 0 else 1) + z_4 (fun t => z_b (g_X M' t).1.1) ≤ (if g_los M = 0 then 0 else 1) + z_4 (fun t => z_b (g_X M t).1.1) + 1) : i_N (i + 1) (a + 1) s b (p + 1) C D X M' := by
  obtain ⟨h1, h2, h3, h4, h5, h6, h7, h8⟩ := I
  exact ⟨by omega, by omega, by omega, h4, h5, by omega, by omega, by omega⟩
theorem iN_c {i a s b p C D X : Nat} {M M' : s_M} (I : i_N i a s b p C D X M) (h : (if g_los M' = 0 then 0 else 1) + z_4 (fun t => z_b (g_X M' t).1.1) ≤ (if g_los M = 0 then 0 else 1) + z_4 (fun t => z_b (g_X M t).1.1)) : i_N (i + 1) a (s + 1) b p (C + 1) D (X + 0) M' := by
  obtain ⟨h1, h2, h3, h4, h5, h6, h7, h8⟩ := I
  have e1 : D * (C + 1) = D * C + D := by rw [Nat.mul_add, Nat.mul_one]
  have e2 : (C + 1) * (C + 1) = C * C + C + C + 1 := by rw [Nat.mul_add, Nat.add_mul]; omega
  exact ⟨by omega, by omega, by omega, by omega, by omega, h6, by omega, by omega⟩
theorem iN_d {i a s b p C D X : Nat} {M M' : s_M} (I : i_N i a s b p C D X M) (h : (if g_los M' = 0 then 0 else 1) + z_4 (fun t => z_b (g_X M' t).1.1) + 1 ≤ (if g_los M = 0 then 0 else 1) + z_4 (fun t => z_b (g_X M t).1.1)) : i_N (i + 1) a (s + 1) b p (C + 1) (D + 1) (X + C) M' := by
  obtain ⟨h1, h2, h3, h4, h5, h6, h7, h8⟩ := I
  have e1 : (D + 1) * (C + 1) = D * C + D + C + 1 := by rw [Nat.mul_add, Nat.add_mul]; omega
  have e2 : (C + 1) * (C + 1) = C * C + C + C + 1 := by rw [Nat.mul_add, Nat.add_mul]; omega
  exact ⟨by omega, by omega, by omega, by omega, by omega, h6, by omega, by omega⟩
theorem iN_m {i a s b p C D X : Nat} {M M' : s_M} (I : i_N i a s b p C D X M) (h : g_los M' = g_los M ∧ g_X M' = g_X M) : i_N (i + 1) (a + s) 0 (b + 1) p C D X M' := by
  obtain ⟨h1, h2, h3, h4, h5, h6, h7, h8⟩ := I
  unfold i_N
  rw [h.1, h.2]
  exact ⟨by omega, by omega, h3, h4, h5, by omega, by omega, by omega⟩
theorem iN_b {i a s b p C D X : Nat} {M M' : s_M} (I : i_N i a s b p C D X M) (h : g_los M' = g_los M ∧ g_X M' = g_X M) : i_N (i + 1) (a + (s - 1)) 0 (b + (if s = 0 then 1 else 2)) p C D X M' := by
  obtain ⟨h1, h2, h3, h4, h5, h6, h7, h8⟩ := I
  unfold i_N
  rw [h.1, h.2]
  by_cases e : s = 0
  · rw [if_pos e]
    exact ⟨by omega, by omega, h3, h4, h5, by omega, by omega, by omega⟩
  · rw [if_neg e]
    exact ⟨by omega, by omega, h3, h4, h5, by omega, by omega, by omega⟩
end
section
/-! THE STORE'S INVARIANT, behind each commit -/
theorem z_Vadv {K : List k_K2} {L : List k_E4} {n m : Nat} (h : ∀ x ∈ L, x.2.2.1 ≤ n) (hnm : n ≤ m) : m_V K m L = m_V K n L := by
  unfold m_V
  have e : (fun x : k_K2 => (r_val x.1 m L).isSome) = (fun x : k_K2 => (r_val x.1 n L).isSome) := funext (fun x => by rw [r_val_adv h hnm])
  rw [e]
theorem zP_i2 {n k m f : Nat} {A : Nat → Int32 → Prop} {B : Nat → Prop} {E E' : e_S} (z : z_P n A B E E' k m f) (I : i_2 n E) : i_2 n E' :=
  zP_ind z (fun F => i_2 n F) (fun F c o h _ _ => i2_put h) (fun F lo hi h h1 h2 => by
    refine ⟨h.1, h.2.1, fun w hw => ?_, ?_⟩
    · have hw' : w ∈ F.2.2 ++ [(lo, hi, n)] := hw
      rcases List.mem_append.mp hw' with q | q
      · exact h.2.2.1 w q
      · have : w = (lo, hi, n) := by simpa using q
        rw [this]
        exact ⟨h1, h2, Nat.le_refl _⟩
    · show (F.2.2 ++ [(lo, hi, n)]).Pairwise _
      refine List.pairwise_append.mpr ⟨h.2.2.2, List.pairwise_singleton _ _, fun x hx y hy => ?_⟩
      have : y = (lo, hi, n) := by simpa using hy
      rw [this]
      exact (h.2.2.1 x hx).2.2) I
def i_S (W S R V Vs : List Nat) (i s b C X Np : Nat) (M : s_M) : Prop :=
  (i_2M M ∧ i_K (g_E M)) ∧
  ((∀ x ∈ (g_E M).2.1, y_E W R x.2.1 x.2.2.2) ∧ (∀ x ∈ (g_E M).1, y_K x.1) ∧ (∀ x ∈ (g_E M).1, x.1 / 121000000 = 996 → ∃ v ∈ Vs, s_dig x.1 1 = v + 1000) ∧ (∀ v ∈ Vs, v ≤ g_n M) ∧ Vs.length ≤ C) ∧
  i_V W S R V (g_n M) (g_E M).2.1 (g_MK M) ∧
  (p_gd (g_PT M) ∧ g_PT M ≠ [] ∧ 2 * (g_PT M).length ≤ (g_V M).length + 2 ∧ 8 * Np + 2 * p_ps (g_V M) (g_PT M) ≤ z_T (g_n M) (g_E M)) ∧
  ((g_E M).1.length ≤ 22 * i ∧ (g_E M).2.2.length ≤ 12 * i) ∧
  i_T s b C X (W.length + 2 * R.length) (g_E M).2.1.length (g_V M).length
theorem S_gen {W S R V Vs S' V' Vs' : List Nat} {i s b C X Np s' b' C' X' k m f : Nat} {M : s_M} {E' : e_S} {A : Nat → Int32 → Prop} {B : Nat → Prop} (I : i_S W S R V Vs i s b C X Np M)
    (z : z_P (g_n M + 1) A B (g_E M) E' k m f) (hc : z_cd A B) (hA : ∀ c v, A c v → y_K c ∧ y_E W R c (some v) ∧ (c / 121000000 = 996 → ∃ v ∈ Vs', s_dig c 1 = v + 1000))
    (hs : (∀ v ∈ Vs, v ∈ Vs') ∧ (∀ v ∈ Vs', v ≤ g_n M + 1) ∧ Vs'.length ≤ C') (hV : i_V W S' R V' (g_n M + 1) E'.2.1 (g_MK M)) (hm : m ≤ 12) (hf : f ≤ 22)
    (hT : i_T s' b' C' X' (W.length + 2 * R.length) E'.2.1.length (m_V E'.1 (g_n M + 1) E'.2.1).length) : i_S W S' R V' Vs' (i + 1) s' b' C' X' (Np + g_sp M E') (g_cm M E') := by
  obtain ⟨⟨i2, iK⟩, ⟨l1, l2, l3, l4, l5⟩, iV, ⟨p1, p2, p3, p4⟩, ⟨n1, n2⟩, iT⟩ := I
  obtain ⟨q1, q2, q3, q4, q5⟩ := zP_num z hc iK p1.1
  have iK' := zP_iK z hc iK
  have eV : m_V (g_E M).1 (g_n M + 1) (g_E M).2.1 = g_V M := z_Vadv i2.2.1 (Nat.le_succ _)
  have eT : z_T (g_n M + 1) (g_E M) = z_T (g_n M) (g_E M) := by unfold z_T; rw [eV]; rfl
  obtain ⟨a1, a2, a3, a4⟩ := arr_gd (V := m_V E'.1 (g_n M + 1) E'.2.1) (p_srt (p := fun c => (r_val c (g_n M + 1) E'.2.1).isSome) iK'.1) (fun x hx => by
    obtain ⟨y, hy, rfl⟩ := List.mem_map.mp hx
    exact iK'.2.2 y (List.mem_filter.mp hy).1) p1 p2
  refine ⟨⟨zP_i2 z (i2_mono i2 (Nat.le_succ _)), iK'⟩, ⟨?_, ?_, ?_, hs.2.1, hs.2.2⟩, hV, ⟨a1, a2, a3, ?_⟩, ⟨?_, ?_⟩, hT⟩
  · exact zP_log z (fun c o => y_E W R c o) (fun c v a => (hA c v a).2.1) (fun c f h => by cases h) l1
  · intro x hx
    rcases zP_key z (c := x.1) ⟨x.2, hx⟩ with ⟨q, h⟩ | ⟨w, h⟩ | h
    · exact l2 (x.1, q) h
    · exact (hA _ w h).1
    · exact h.1
  · intro x hx hx6
    rcases zP_key z (c := x.1) ⟨x.2, hx⟩ with ⟨q, h⟩ | ⟨w, h⟩ | h
    · obtain ⟨v, hv, e⟩ := l3 (x.1, q) h hx6
      exact ⟨v, hs.1 v hv, e⟩
    · exact (hA _ w h).2.2 hx6
    · exact absurd hx6 h.2
  · rw [eV] at q5
    have e1 : g_V (g_cm M E') = m_V E'.1 (g_n M + 1) E'.2.1 := rfl
    have e2 : g_PT (g_cm M E') = p_arr (m_V E'.1 (g_n M + 1) E'.2.1) (g_PT M) := rfl
    have e3 : z_T (g_n (g_cm M E')) (g_E (g_cm M E')) = z_T (g_n M + 1) E' := rfl
    rw [e1, e2, e3]
    unfold g_sp
    generalize (p_split (m_V E'.1 (g_n M + 1) E'.2.1) ((g_PT M).length + (m_V E'.1 (g_n M + 1) E'.2.1).length) [] (g_PT M)).length - (g_PT M).length = d at a4 ⊢
    omega
  · show E'.1.length ≤ 22 * (i + 1)
    omega
  · show E'.2.2.length ≤ 12 * (i + 1)
    omega
theorem S_T {W S R V Vs : List Nat} {i s b C X Np : Nat} {M : s_M} (I : i_S W S R V Vs i s b C X Np M) (hn : g_n M < 9000) : (S = [] → (g_V M).length ≤ W.length + 2 * R.length) ∧ (g_V M).length ≤ W.length + S.length + R.length := by
  have := ln_n I.1.2 I.2.2.1 hn
  refine ⟨fun h => ?_, this⟩
  rw [h] at this
  have e : (m_V (g_E M).1 (g_n M) (g_E M).2.1).length = (g_V M).length := rfl
  rw [e, List.length_nil] at this
  omega
/-- a commit-like call -/
theorem S_cm {W S R V Vs S' V' : List Nat} {i s b C X Np k m f e : Nat} {M : s_M} {E' : e_S} {A : Nat → Int32 → Prop} {B : Nat → Prop} (I : i_S W S R V Vs i s b C X Np M) (hn : g_n M < 9000) (hS0 : s = 0 → S = [])
    (z : z_P (g_n M + 1) A B (g_E M) E' k m f) (hc : z_cd A B) (hA : ∀ c v, A c v → y_K c ∧ y_E W R c (some v) ∧ (c / 121000000 = 996 → s_dig c 1 = g_n M + 1 + 1000))
    (hV : i_V W S' R V' (g_n M + 1) E'.2.1 (g_MK M)) (hk : k ≤ 42 + e) (hm : m ≤ 12) (hf : f ≤ 22) : i_S W S' R V' ((g_n M + 1) :: Vs) (i + 1) (s + 1) b (C + 1) (X + e) (Np + g_sp M E') (g_cm M E') := by
  refine S_gen I z hc (fun c v a => ?_) ⟨fun v hv => List.mem_cons_of_mem _ hv, fun v hv => ?_, ?_⟩ hV hm hf ?_
  · obtain ⟨h1, h2, h3⟩ := hA c v a
    exact ⟨h1, h2, fun z => ⟨_, List.mem_cons_self, h3 z⟩⟩
  · rcases List.mem_cons.mp hv with rfl | hv
    · exact Nat.le_refl _
    · exact Nat.le_succ_of_le (I.2.1.2.2.2.1 v hv)
  · rw [List.length_cons]; exact Nat.add_le_add_right I.2.1.2.2.2.2 1
  · have q := zP_num z hc I.1.2 I.2.2.2.1.1.1
    have eV : m_V (g_E M).1 (g_n M + 1) (g_E M).2.1 = g_V M := z_Vadv I.1.1.2.1 (Nat.le_succ _)
    refine iT_cm I.2.2.2.2.2 (fun h => (S_T I hn).1 (hS0 h)) ?_ hk
    have q1 := q.1
    unfold z_T at q1
    rw [eV] at q1
    exact q1
/-! .. bringing back -/
theorem fold_len {n : Nat} {g : k_K2 → Option Int32} : ∀ (X : List k_K2) (E : e_S), (X.foldl (fun F y => e_put n y.1 (g y) F) E).2.1.length = E.2.1.length + X.length := by
  intro X
  induction X with
  | nil => intro E; rfl
  | cons x X ih =>
    intro E
    rw [List.foldl_cons, ih, List.length_cons]
    show E.2.1.length + 1 + X.length = _
    omega
theorem fold_val {n c : Nat} {g : Nat → Option Int32} : ∀ (X : List k_K2) (E : e_S), (r_val c n (X.foldl (fun F y => e_put n y.1 (g y.1) F) E).2.1) = if (X.any (fun x => decide (x.1 = c))) = true then g c else r_val c n E.2.1 := by
  intro X
  induction X with
  | nil => intro E; rfl
  | cons x X ih =>
    intro E
    rw [List.foldl_cons, ih, List.any_cons, put_val]
    by_cases h : (X.any (fun x => decide (x.1 = c))) = true
    · rw [if_pos h, if_pos (by rw [h, Bool.or_true])]
    · rw [if_neg h]
      by_cases e : x.1 = c
      · rw [if_pos ⟨e, Nat.le_refl _⟩, if_pos (by rw [decide_eq_true e, Bool.true_or]), e]
      · rw [if_neg (fun z => e z.1), if_neg (by rw [decide_eq_false e, Bool.false_or]; exact h)]
theorem dif_no {c v n : Nat} {L : List k_E4} (h : bb_oth L n v c = false) : r_val c n L = r_val c v L := by
  unfold bb_oth bb_dif at h
  cases e1 : r_val c n L with
  | some x =>
    cases e2 : r_val c v L with
    | some y =>
      rw [e1, e2] at h
      simp only [Option.isSome_some, decide_true, Bool.not_true, Bool.false_or, Bool.not_eq_false', decide_eq_true_eq] at h
      have h' : y = x := h
      rw [h']
    | none => rw [e1, e2] at h; simp at h
  | none =>
    cases e2 : r_val c v L with
    | some y => rw [e1, e2] at h; simp at h
    | none => rfl
theorem bb_val {M : s_M} {v c : Nat} (K : i_K (g_E M)) (hv : ∀ x ∈ (g_E M).2.1, x.2.2.1 ≤ g_n M) : r_val c (g_n M + 1) (bb_E M v).2.1 = r_val c v (g_E M).2.1 := by
  unfold bb_E
  rw [fold_val (g := fun c => r_val c v (g_E M).2.1)]
  split
  · rfl
  · rename_i h
    rw [r_val_adv hv (Nat.le_succ _)]
    by_cases e : bb_oth (g_E M).2.1 (g_n M) v c = true
    · obtain ⟨a, ha⟩ : z_nm c (g_E M).1 := by
        rcases dif_or e with q | q
        · exact val_in K.2.1 q
        · exact val_in K.2.1 q
      refine absurd (List.any_eq_true.mpr ⟨(c, a), ?_, decide_eq_true rfl⟩) h
      exact List.mem_filter.mpr ⟨ha, e⟩
    · exact dif_no (by simpa using e)
def bA (M : s_M) (v c : Nat) (w : Int32) : Prop := z_nm c (g_E M).1 ∧ r_val c v (g_E M).2.1 = some w
def bB (M : s_M) (c : Nat) : Prop := z_nm c (g_E M).1
theorem zP_back {M : s_M} {v : Nat} (K : i_K (g_E M)) : z_P (g_n M + 1) (bA M v) (bB M) (g_E M) (bb_E M v) (2 * (bb_list M v).length) 0 0 ∧ z_cd (bA M v) (bB M) := by
  have hc : z_cd (bA M v) (bB M) := ⟨fun c w h => by obtain ⟨⟨a, h⟩, -⟩ := h; exact K.2.2 _ h, fun c h => by obtain ⟨a, h⟩ := h; exact K.2.2 _ h⟩
  refine ⟨?_, hc⟩
  have := zP_fold (n := g_n M + 1) (A := bA M v) (B := bB M) (g := fun F y => e_put (g_n M + 1) y.1 (r_val y.1 v (g_E M).2.1) F) (k := 2) (m := 0) (f := 0) hc (bb_list M v) (g_E M) K (fun x hx F _ hk => by
    have hm : z_nm x.1 (g_E M).1 := ⟨x.2, (List.mem_filter.mp hx).1⟩
    cases e : r_val x.1 v (g_E M).2.1 with
    | none => exact zP_mono (zP_n hm (hk _ hm)) (by decide) (Nat.le_refl _) (Nat.le_refl _)
    | some w => exact zP_s ⟨hm, e⟩ (hk _ hm))
  rw [Nat.zero_mul] at this
  exact this
theorem S_back {W S R V Vs : List Nat} {i s b C X Np v : Nat} {M : s_M} (I : i_S W S R V Vs i s b C X Np M) (hn : g_n M < 8999) (hS0 : s = 0 → S = []) (hM : ∀ u ∈ g_MK M, u ≤ g_n M) (hv : v ∈ g_MK M) :
    i_S W [] R V Vs (i + 1) 0 (b + (if s = 0 then 1 else 2)) C X (Np + g_sp M (bb_E M v)) (g_cm M (bb_E M v)) := by
  obtain ⟨z, hc⟩ := zP_back (M := M) (v := v) I.1.2
  have hl := I.1.1.2.1
  refine S_gen I z hc (fun c w a => ?_) ⟨fun v hv => hv, fun v hv => Nat.le_succ_of_le (I.2.1.2.2.2.1 v hv), I.2.1.2.2.2.2⟩ (iV_back I.2.2.1 hv hM (fun c => bb_val I.1.2 hl) (fun c u hu => zP_ext z (by omega))) (Nat.zero_le _) (Nat.zero_le _) ?_
  · obtain ⟨⟨q, h1⟩, h2⟩ := a
    obtain ⟨x, hx, e1, -, e3⟩ := val_mem h2
    have h3 := I.2.1.1 x hx
    rw [e1, e3] at h3
    exact ⟨I.2.1.2.1 _ h1, h3, fun h6 => I.2.1.2.2.1 _ h1 h6⟩
  · have e : (bb_E M v).2.1.length = (g_E M).2.1.length + (bb_list M v).length := fold_len _ _
    rw [e]
    refine iT_back I.2.2.2.2.2 (fun h => ?_) ?_
    · have J := I.2.2.1
      rw [hS0 h] at J
      exact ln_b2 I.1.2 J (by omega) hv
    · have h1 := ln_b1 (M := M) (v := v)
      have h2 := ln_m I.1.2 I.2.2.1 (by omega) hv
      have e2 : (m_V (g_E M).1 (g_n M) (g_E M).2.1).length = (g_V M).length := rfl
      omega
/-! .. steps that leave the log -/
theorem S_same {W S R V Vs W' R' : List Nat} {i i' s b C X Np : Nat} {M M' : s_M} (I : i_S W S R V Vs i s b C X Np M) (hi : i ≤ i') (hW : ∀ c ∈ W, c ∈ W') (hR : ∀ c ∈ R, c ∈ R') (hk : ∀ k ∈ R', k < 100) (hWl : W.length ≤ W'.length) (hRl : R.length ≤ R'.length) (e1 : g_n M' = g_n M) (e2 : (g_E M').2 = (g_E M).2) (e3 : g_MK M' = g_MK M) (e4 : g_PT M' = g_PT M)
    (hK : i_K (g_E M')) (hk2 : ∀ x ∈ (g_E M').1, z_nm x.1 (g_E M).1 ∨ (y_K x.1 ∧ ¬ x.1 / 121000000 = 996)) (hkl : (g_E M').1.length ≤ 22 * i') (hv : g_V M' = g_V M) : i_S W' S R' V Vs i' s b C X Np M' := by
  obtain ⟨⟨i2, iK⟩, ⟨l1, l2, l3, l4, l5⟩, iV, ⟨p1, p2, p3, p4⟩, ⟨n1, n2⟩, iT⟩ := I
  refine ⟨⟨?_, hK⟩, ⟨?_, ?_, ?_, ?_, l5⟩, ?_, ⟨?_, ?_, ?_, ?_⟩, ⟨hkl, ?_⟩, ?_⟩
  · show i_2 (g_n M') (g_E M')
    unfold i_2
    rw [e1, e2]
    exact i2
  · rw [e2]
    exact fun x hx => yE_mono hW hR (l1 x hx)
  · intro x hx
    rcases hk2 x hx with ⟨q, h⟩ | h
    · exact l2 (x.1, q) h
    · exact h.1
  · intro x hx h6
    rcases hk2 x hx with ⟨q, h⟩ | h
    · exact l3 (x.1, q) h h6
    · exact absurd h6 h.2
  · rw [e1]; exact l4
  · rw [e1, e2, e3]
    exact iV_mono iV hW hR hk
  · rw [e4]; exact p1
  · rw [e4]; exact p2
  · rw [e4, hv]; exact p3
  · have : z_T (g_n M') (g_E M') = z_T (g_n M) (g_E M) := by
      show (g_E M').2.1.length + (g_V M').length = (g_E M).2.1.length + (g_V M).length
      rw [e2, hv]
    rw [this, e4, hv]
    exact p4
  · rw [e2]; omega
  · rw [e2, hv]
    exact iT_y iT (by omega)
theorem S_adv {W S R V Vs : List Nat} {i s b C X Np k g : Nat} {M : s_M} (I : i_S W S R V Vs i s b C X Np M) : i_S W S R V Vs (i + 1) s b C X Np (g_adv M k g) := by
  obtain ⟨⟨i2, iK⟩, ⟨l1, l2, l3, l4, l5⟩, iV, ⟨p1, p2, p3, p4⟩, ⟨n1, n2⟩, iT⟩ := I
  have hv : g_V (g_adv M k g) = g_V M := z_Vadv i2.2.1 (Nat.le_add_right _ _)
  refine ⟨⟨i2_adv i2, iK⟩, ⟨l1, l2, l3, fun v hv => Nat.le_trans (l4 v hv) (Nat.le_add_right _ _), l5⟩, iV_adv iV i2.2.1 (Nat.le_add_right _ _), ⟨p1, p2, ?_, ?_⟩, ⟨?_, ?_⟩, ?_⟩
  · rw [hv]; exact p3
  · have : z_T (g_n (g_adv M k g)) (g_E (g_adv M k g)) = z_T (g_n M) (g_E M) := by
      show (g_E M).2.1.length + (g_V (g_adv M k g)).length = (g_E M).2.1.length + (g_V M).length
      rw [hv]
    rw [this, hv]
    exact p4
  · show (g_E M).1.length ≤ _; omega
  · show (g_E M).2.2.length ≤ _; omega
  · rw [hv]; exact iT
theorem S_mark {W S R V Vs : List Nat} {i s b C X Np : Nat} {M : s_M} (I : i_S W S R V Vs i s b C X Np M) : i_S (W ++ S) [] R V Vs (i + 1) 0 (b + 1) C X Np (g_mks M (g_MK M ++ [g_n M])) := by
  obtain ⟨⟨i2, iK⟩, ⟨l1, l2, l3, l4, l5⟩, iV, ⟨p1, p2, p3, p4⟩, ⟨n1, n2⟩, iT⟩ := I
  have hW : ∀ c ∈ W, c ∈ W ++ S := fun c h => List.mem_append.mpr (Or.inl h)
  refine ⟨⟨i2, iK⟩, ⟨fun x hx => yE_mono hW (fun _ h => h) (l1 x hx), l2, l3, l4, l5⟩, iV_mark iV, ⟨p1, p2, p3, p4⟩, ⟨?_, ?_⟩, iT_mark iT ?_⟩
  · show (g_E M).1.length ≤ _; omega
  · show (g_E M).2.2.length ≤ _; omega
  · rw [List.length_append]; omega
end
section
/-! THE TRANSACTIONS' INVARIANT, and all of it together -/
theorem zs_add (f g : k_CH → Nat) (l : List k_CH) : z_sum f l + z_sum g l = z_sum (fun y => f y + g y) l := by
  induction l with
  | nil => rfl
  | cons x l ih => rw [zs_cons, zs_cons, zs_cons, ← ih]; omega
def z_cy (l : List k_CH) : Nat := z_sum z_c1 l + z_sum z_c2 l
theorem c12_le (y : k_CH) : z_c1 y + z_c2 y ≤ 2 := by
  unfold z_c1 z_c2 s_ord
  by_cases e : y.2.1 = 6
  · rw [if_pos e, if_neg (by rw [e]; decide)]; exact Nat.le_refl _
  · rw [if_neg e]
    repeat' split
    all_goals omega
theorem cy_le (l : List k_CH) : z_cy l ≤ 2 * l.length := by
  unfold z_cy
  rw [zs_add]
  exact zs_le _ l (fun x _ => c12_le x)
theorem cy_app (l l' : List k_CH) : z_cy (l ++ l') = z_cy l + z_cy l' := by unfold z_cy; rw [zs_app, zs_app]; omega
theorem cy_flt (p : k_CH → Bool) (l : List k_CH) : z_cy (l.filter p) ≤ z_cy l := Nat.add_le_add (zs_flt _ _ _) (zs_flt _ _ _)
theorem w1_le (l : List k_CH) : z_sum z_w1 l ≤ l.length := by
  have := zs_le z_w1 (b := 1) l (fun x _ => by unfold z_w1; split <;> omega)
  omega
def i_x (K : List k_K2) (W R : List Nat) (i C : Nat) (x : s_X) : Prop := (∀ y ∈ x.2.1, y_y K W R y) ∧ x.2.2.length ≤ 4 * i ∧ x.2.1.length ≤ 17 + C ∧ z_cy x.2.1 ≤ 33 + C ∧ z_sum z_w1 x.2.1 ≤ 12 ∧ z_sum z_s6 x.2.1 ≤ 12
def i_X (W R : List Nat) (i C : Nat) (M : s_M) : Prop := ∀ t, t < 4 → i_x (g_E M).1 W R i C (g_X M t)
theorem ix_mono {K K' : List k_K2} {W R W' R' : List Nat} {i C i' C' : Nat} {x : s_X} (I : i_x K W R i C x) (hK : ∀ c, z_nm c K → z_nm c K') (hW : ∀ c ∈ W, c ∈ W') (hR : ∀ c ∈ R, c ∈ R') (hi : i ≤ i') (hC : C ≤ C') : i_x K' W' R' i' C' x := by
  obtain ⟨h1, h2, h3, h4, h5, h6⟩ := I
  exact ⟨fun y hy => yy_mono hK hW hR (h1 y hy), by omega, by omega, by omega, h5, h6⟩
theorem ix_nil {K : List k_K2} {W R : List Nat} {i C : Nat} {x : s_X} (h1 : x.2.1 = []) (h2 : x.2.2 = []) : i_x K W R i C x := by
  unfold i_x
  rw [h1, h2]
  exact ⟨fun y hy => (by cases hy), Nat.zero_le _, Nat.zero_le _, Nat.zero_le _, Nat.zero_le _, Nat.zero_le _⟩
theorem iX_mono {W R W' R' : List Nat} {i C i' C' : Nat} {M M' : s_M} (I : i_X W R i C M) (hX : g_X M' = g_X M) (hK : ∀ c, z_nm c (g_E M).1 → z_nm c (g_E M').1) (hW : ∀ c ∈ W, c ∈ W') (hR : ∀ c ∈ R, c ∈ R') (hi : i ≤ i') (hC : C ≤ C') : i_X W' R' i' C' M' := fun t ht => by
  rw [hX]
  exact ix_mono (I t ht) hK hW hR hi hC
theorem iX_tx {W R W' R' : List Nat} {i C i' C' : Nat} {M M' : s_M} {t : Nat} {x : s_X} (I : i_X W R i C M) (hX : g_X M' = fun q => if q = t then x else g_X M q) (hx : i_x (g_E M').1 W' R' i' C' x) (hK : ∀ c, z_nm c (g_E M).1 → z_nm c (g_E M').1) (hW : ∀ c ∈ W, c ∈ W') (hR : ∀ c ∈ R, c ∈ R') (hi : i ≤ i') (hC : C ≤ C') : i_X W' R' i' C' M' := fun u hu => by
  rw [hX]
  show i_x _ _ _ _ _ (if u = t then x else g_X M u)
  by_cases e : u = t
  · rw [if_pos e]; exact hx
  · rw [if_neg e]; exact ix_mono (I u hu) hK hW hR hi hC
def i_D (i : Nat) (M : s_M) : Prop := d_ok (g_DS M) ∧ d_many (g_DS M).1 ≤ 9 ∧ (g_DS M).2 ≤ i + 1 ∧ (g_DS M).1.length ≤ 10
/-- all of it, with what is counted beside it -/
def i_A (i : Nat) (M : s_M) (N w : Nat) (W S R V Vs : List Nat) (a s b p C D X Y Np : Nat) : Prop :=
  (i_1 (10 * i) i M ∧ i_D i M ∧ g_ser M ≤ 1000 * i) ∧ i_S W S R V Vs i s b C X Np M ∧ i_X W R i C M ∧ i_C W S R M a s ∧ i_N i a s b p C D X M ∧ (N ≤ 12 * i + Y + Np ∧ Y ≤ p * C ∧ w ≤ 12 * i)
def i_I (i : Nat) (M : s_M) (N w : Nat) : Prop := ∃ (W S R V Vs : List Nat) (a s b p C D X Y Np : Nat), i_A i M N w W S R V Vs a s b p C D X Y Np
/-! .. calls that change nothing -/
theorem I_0 {i N w N' : Nat} {M : s_M} (I : i_I i M N w) (hN : N' ≤ N + 12) : i_I (i + 1) M N' w := by
  obtain ⟨W, S, R, V, Vs, a, s, b, p, C, D, X, Y, Np, ⟨⟨h1, h2, h3⟩, hS, hX, hC, hN', h4, h5, h6⟩⟩ := I
  refine ⟨W, S, R, V, Vs, a, s, b, p, C, D, X, Y, Np, ⟨⟨i1_mono h1 (by omega) (Nat.le_succ _), ⟨h2.1, h2.2.1, by have := h2.2.2.1; omega, h2.2.2.2⟩, by omega⟩, ?_, ?_, hC, iN_i hN' (Nat.le_refl _), by omega, h5, by omega⟩⟩
  · exact S_same hS (Nat.le_succ _) (fun _ h => h) (fun _ h => h) hS.2.2.1.2.2.1.2 (Nat.le_refl _) (Nat.le_refl _) rfl rfl rfl rfl hS.1.2 (fun x hx => Or.inl ⟨x.2, hx⟩) (by have := hS.2.2.2.2.1.1; omega) rfl
  · exact iX_mono hX rfl (fun _ h => h) (fun _ h => h) (fun _ h => h) (Nat.le_succ _) (Nat.le_refl _)
/-! .. calls that change one transaction's numbers and readings, or the state's flags -/
theorem Y_p {p C Y : Nat} (h : Y ≤ p * C) : Y ≤ (p + 1) * C := by rw [Nat.add_mul]; omega
/-- a call that prepares: the log stays -/
theorem I_pre {i N w N' : Nat} {M : s_M} (I : i_I i M N w) (M' : s_M) (hN : N' ≤ N + 12) (e1 : g_n M' = g_n M) (e2 : g_E M' = g_E M) (e3 : g_MK M' = g_MK M) (e4 : g_PT M' = g_PT M) (h1 : ∀ n g, i_1 n g M → i_1 n g M') (h2 : ∀ i, i_D i M → i_D i M') (h3 : g_ser M' = g_ser M)
    (hX : ∀ (W R : List Nat) (C : Nat), i_X W R i C M → i_X W R (i + 1) C M') (hC : z_C M' ≤ z_C M + 11) (hB : (if g_los M' = 0 then 0 else 1) + z_4 (fun t => z_b (g_X M' t).1.1) ≤ (if g_los M = 0 then 0 else 1) + z_4 (fun t => z_b (g_X M t).1.1) + 1) : i_I (i + 1) M' N' w := by
  obtain ⟨W, S, R, V, Vs, a, s, b, p, C, D, X, Y, Np, ⟨⟨g1, g2, g3⟩, hS, gX, gC, gN, g4, g5, g6⟩⟩ := I
  have hd := h2 i g2
  have ev : g_V M' = g_V M := by unfold g_V; rw [e1, e2]
  refine ⟨W, S, R, V, Vs, a + 1, s, b, p + 1, C, D, X, Y, Np, ⟨⟨i1_mono (h1 _ _ g1) (by omega) (Nat.le_succ _), ⟨hd.1, hd.2.1, by have := hd.2.2.1; omega, hd.2.2.2⟩, by omega⟩, ?_, hX W R C gX, ⟨by have := gC.1; omega, by have := gC.2.1; omega, gC.2.2⟩, iN_p gN hB, by omega, Y_p g5, by omega⟩⟩
  exact S_same hS (Nat.le_succ _) (fun _ h => h) (fun _ h => h) hS.2.2.1.2.2.1.2 (Nat.le_refl _) (Nat.le_refl _) e1 (by rw [e2]) e3 e4 (by rw [e2]; exact hS.1.2) (fun x hx => Or.inl ⟨x.2, by rw [e2] at hx; exact hx⟩) (by rw [e2]; have := hS.2.2.2.2.1.1; omega) ev
theorem iX_same {W R : List Nat} {i C : Nat} {M M' : s_M} (hX : g_X M' = g_X M) (hE : g_E M' = g_E M) (I : i_X W R i C M) : i_X W R (i + 1) C M' := iX_mono I hX (fun c h => by rw [hE]; exact h) (fun _ h => h) (fun _ h => h) (Nat.le_succ _) (Nat.le_refl _)
theorem zb_le (x : Bool) : z_b x ≤ 1 := by unfold z_b; split <;> omega
theorem I_begin {i N w : Nat} {M : s_M} {x : Int32} {once : Bool} (I : i_I i M N w) : i_I (i + 1) (F_begin M x once).1 (N + 1) w := by
  rcases z_begin (M := M) (x := x) (once := once) with e | ⟨t, ht, e⟩
  · rw [e]; exact I_0 I (by omega)
  · rw [e]
    refine I_pre I (g_tx M t ((true, once, g_n M, g_gen M, 0), [], [])) (by omega) rfl rfl rfl rfl (fun n g h => i1_tx h ⟨Nat.le_refl _, Nat.le_refl _, Nat.zero_le _⟩) (fun _ h => h) rfl (fun W R C h => iX_tx h rfl (ix_nil rfl rfl) (fun _ h => h) (fun _ h => h) (fun _ h => h) (Nat.le_succ _) (Nat.le_refl _)) (zC_tx ht (by rw [zcr_nil (x := ((true, once, g_n M, g_gen M, 0), [], [])) rfl]; omega)) ?_
    have := z4_up (f := fun u => z_b (g_X M u).1.1) (g := fun u => z_b (g_X (g_tx M t ((true, once, g_n M, g_gen M, 0), [], [])) u).1.1) ht (fun u hu => by show z_b (if u = t then _ else g_X M u).1.1 = _; rw [if_neg hu])
    have e2 : z_b (g_X (g_tx M t ((true, once, g_n M, g_gen M, 0), [], [])) t).1.1 ≤ 1 := zb_le _
    show (if g_los M = 0 then 0 else 1) + z_4 (fun u => z_b (g_X (g_tx M t ((true, once, g_n M, g_gen M, 0), [], [])) u).1.1) ≤ _
    omega
theorem I_rd {i N w N' : Nat} {M M' : s_M} (I : i_I i M N w) (z : z_rd M M') (hN : N' ≤ N + 12) : i_I (i + 1) M' N' w := by
  rcases z with rfl | ⟨t, r, ht, hb, rfl, hr⟩
  · exact I_0 I hN
  · refine I_pre I (g_rdg M t r) hN rfl rfl rfl rfl (fun n g h => i1_tx h (h.2.2.2.1 t ht)) (fun _ h => h) rfl (fun W R C h => ?_) (Nat.le_trans (zC_tx ht (k := 0) (Nat.le_of_eq (zcr_hd rfl rfl))) (by omega)) ?_
    · refine iX_tx h rfl ?_ (fun _ h => h) (fun _ h => h) (fun _ h => h) (Nat.le_succ _) (Nat.le_refl _)
      obtain ⟨a1, a2, a3⟩ := h t ht
      refine ⟨a1, ?_, a3⟩
      show r.length ≤ 4 * (i + 1)
      omega
    · have := z4_up (f := fun u => z_b (g_X M u).1.1) (g := fun u => z_b (g_X (g_rdg M t r) u).1.1) ht (fun u hu => by show z_b (if u = t then _ else g_X M u).1.1 = _; rw [if_neg hu])
      have e2 : z_b (g_X (g_rdg M t r) t).1.1 ≤ 1 := zb_le _
      show (if g_los M = 0 then 0 else 1) + z_4 (fun u => z_b (g_X (g_rdg M t r) u).1.1) ≤ _
      omega
theorem I_lose {i N w : Nat} {M : s_M} {d : Bool} (I : i_I i M N w) : i_I (i + 1) (F_lose M d).1 N w := by
  have hl : (if d = true then 1 else 2 : Nat) ≤ 2 := by split <;> omega
  have hl0 : ¬ (if d = true then 1 else 2 : Nat) = 0 := by split <;> omega
  refine I_pre I (F_lose M d).1 (by omega) rfl rfl rfl rfl (fun n g h => i1_sl h hl) (fun _ h => h) rfl (fun W R C h => iX_same rfl rfl h) ?_ ?_
  · unfold z_C z_los
    show _ + (if (if d = true then 1 else 2 : Nat) = 0 then 0 else 11) ≤ _
    rw [if_neg hl0]
    have : z_4 (fun t => z_cr (g_n (F_lose M d).1) (g_X (F_lose M d).1 t)) = z_4 (fun t => z_cr (g_n M) (g_X M t)) := rfl
    omega
  · show (if (if d = true then 1 else 2 : Nat) = 0 then 0 else 1) + z_4 (fun t => z_b (g_X M t).1.1) ≤ _
    rw [if_neg hl0]
    omega
theorem I_adv {i N w k g N' : Nat} {M : s_M} (I : i_I i M N w) (hk : k ≤ 10) (hg : g_gen M ≤ g) (hg2 : g ≤ g_gen M + 1) (hN : N' ≤ N + 12) : i_I (i + 1) (g_adv M k g) N' w := by
  obtain ⟨W, S, R, V, Vs, a, s, b, p, C, D, X, Y, Np, ⟨⟨g1, g2, g3⟩, hS, gX, gC, gN, g4, g5, g6⟩⟩ := I
  refine ⟨W, S, R, V, Vs, a, s, b, p, C, D, X, Y, Np, ⟨⟨i1_mono (i1_adv g1 hg hg2) (by omega) (Nat.le_refl _), ⟨g2.1, g2.2.1, by have := g2.2.2.1; exact Nat.le_succ_of_le this, g2.2.2.2⟩, ?_⟩, S_adv hS, iX_same rfl rfl gX, iC_le gC (zC_n _ (Nat.le_add_right _ _) rfl rfl), iN_i gN (Nat.le_refl _), by omega, g5, by omega⟩⟩
  show g_ser M ≤ _
  omega
theorem I_watch {i N w : Nat} {M : s_M} {a1 b1 c1 : Int32} (I : i_I i M N w) : i_I (i + 1) (F_watch M a1 b1 c1).1 (N + 2) w := by
  rcases z_watch (M := M) (a := a1) (b := b1) (c := c1) with e | ⟨h, e⟩
  · rw [e]; exact I_0 I (by omega)
  · rw [e]
    exact I_pre I (g_wts M (g_WT M ++ [(s_cd a1 b1 c1, -2147483648)])) (by omega) rfl rfl rfl rfl (fun n g z => i1_wts z h) (fun _ h => h) rfl (fun W R C h => iX_same rfl rfl h) (Nat.le_add_right _ _) (Nat.le_add_right _ _)
theorem I_mark {i N w : Nat} {M : s_M} (I : i_I i M N w) : i_I (i + 1) (F_mark M).1 (N + 1) w := by
  rcases z_mark (M := M) with e | ⟨h, e⟩
  · rw [e]; exact I_0 I (by omega)
  · rw [e]
    obtain ⟨W, S, R, V, Vs, a, s, b, p, C, D, X, Y, Np, ⟨⟨g1, g2, g3⟩, hS, gX, gC, gN, g4, g5, g6⟩⟩ := I
    refine ⟨W ++ S, [], R, V, Vs, a + s, 0, b + 1, p, C, D, X, Y, Np, ⟨⟨i1_mono (i1_mks g1 h) (by omega) (Nat.le_succ _), ⟨g2.1, g2.2.1, by have := g2.2.2.1; exact Nat.le_succ_of_le this, g2.2.2.2⟩, ?_⟩, S_mark hS, iX_mono gX rfl (fun _ h => h) (fun c h => List.mem_append.mpr (Or.inl h)) (fun _ h => h) (Nat.le_succ _) (Nat.le_refl _), iC_mark gC rfl, iN_m gN ⟨rfl, rfl⟩, by omega, g5, by omega⟩⟩
    show g_ser M ≤ _
    omega
end
section
/-! WHAT CALLS KEEP -/
theorem lay_out {a : Int32} (ha : s_nm a) (h : s_inB a (-7) (-1) = false) : s_dg a < 993 ∨ 999 < s_dg a := by
  have h1 := s_dg_num ha
  unfold s_inB at h
  by_cases c1 : a < -7
  · have := Int32.lt_iff_toInt_lt.mp c1
    have e : (-7 : Int32).toInt = -7 := by decide
    omega
  · by_cases c2 : (-1 : Int32) < a
    · have := Int32.lt_iff_toInt_lt.mp c2
      have e : (-1 : Int32).toInt = -1 := by decide
      omega
    · rw [decide_eq_true c1, decide_eq_true c2] at h
      cases h
theorem key_nm {a b c : Int32} (h : s_keyB a b c = true) : s_nm a := by
  unfold s_keyB at h
  rw [Bool.and_eq_true] at h
  exact s_nmB_iff.mp h.1
theorem key_o {a b c : Int32} (h : s_keyB a b c = true) (h2 : s_inB a (-7) (-1) = false) : y_o (s_cd a b c) (s_cd a b c + 1) := by
  obtain ⟨ha, hb, hc⟩ := s_keyB_na h
  have e := s_cd_div (a := a) hb hc
  unfold y_o
  rcases lay_out (key_nm h) h2 with g | g
  · left; omega
  · right; omega
theorem rng_o {a b : Int32} (h : s_rngB a b = true) (h2 : a = 10000 ∨ s_inB a (-7) (-1) = true → False) : y_o (s_lo a b) (s_la a b + 1) ∧ s_la a b + 1 ≤ 1331000000000 ∧ s_lo a b < 1331000000000 ∧ 1 < s_la a b + 1 - s_lo a b := by
  obtain ⟨ha, hb⟩ := s_rngB_na h
  have na : ¬ a = 10000 := fun z => h2 (Or.inl z)
  have hi : s_inB a (-7) (-1) = false := by
    cases e : s_inB a (-7) (-1) with
    | false => rfl
    | true => exact absurd (h2 (Or.inr e)) id
  have nm : s_nm a := by
    rcases ha with e | e
    · exact absurd e na
    · exact e
  have d1 := s_dg_lt ha
  have d2 := s_dg_lt hb
  have e1 : s_cd a b 10000 = (s_dg a * 11000 + s_dg b) * 11000 := by unfold s_cd; rw [s_dg_none, Nat.add_zero]
  have e2 : b = 10000 → s_dg b = 0 := fun z => by rw [z]; rfl
  unfold s_lo s_la s_hi y_o
  rw [if_neg na, if_neg na, if_neg na]
  by_cases eb : b = 10000
  · have e3 := e2 eb
    rw [if_pos eb]
    rcases lay_out nm hi with g | g
    · exact ⟨Or.inl (by omega), by omega, by omega, by omega⟩
    · exact ⟨Or.inr (by omega), by omega, by omega, by omega⟩
  · rw [if_neg eb]
    rcases lay_out nm hi with g | g
    · exact ⟨Or.inl (by omega), by omega, by omega, by omega⟩
    · exact ⟨Or.inr (by omega), by omega, by omega, by omega⟩
def kp_W (W : List Nat) (y : k_CH) : List Nat := if y.2.1 = 6 then W else y.2.2.1 :: W
theorem kp_at {M : s_M} {y : k_CH} (K : i_K (g_E M)) (h : z_y M y) (W R : List Nat) : y_y (if m_ck y < 6 then m_ins y.2.2.1 (g_E M).1 else (g_E M).1) (kp_W W y) R y ∧ (m_ck y < 6 → y_o y.2.2.1 (y.2.2.1 + 1) ∧ y.2.2.1 < 1331000000000) := by
  obtain ⟨-, ⟨h1, a, b, hr, h2, h3, h4⟩ | ⟨a, b, c, hk, hi, h6, h3, h4⟩ | ⟨h1, h3, h4⟩⟩ := h
  · obtain ⟨o1, o2, o3, o4⟩ := rng_o hr h2
    rw [← h3, ← h4] at o1 o4
    rw [← h4] at o2
    rw [← h3] at o3
    have e : m_ck y = 7 := by unfold m_ck; rw [if_pos ⟨h1, o4⟩]
    exact ⟨⟨o3, o2, Or.inl ⟨h1, o4, o1⟩⟩, fun z => by rw [e] at z; exact absurd z (by decide)⟩
  · obtain ⟨ha, hb, hc⟩ := s_keyB_na hk
    have o := key_o hk hi
    have hl := s_cd_lt ha hb hc
    rw [← h3] at o hl
    rw [← h3] at h4
    have hly : y.2.2.1 / 121000000 < 993 ∨ 999 < y.2.2.1 / 121000000 := by
      rcases o with o | o
      · left; omega
      · right; omega
    refine ⟨⟨hl, by omega, ?_⟩, fun _ => ⟨o, hl⟩⟩
    have ck : ¬ y.2.1 = 6 → m_ck y = y.2.1 := fun e6 => by
      unfold m_ck
      rw [if_neg (fun z => by omega), if_neg (fun z => e6 z.1)]
    have nm : y.2.1 < 6 → z_nm y.2.2.1 (if m_ck y < 6 then m_ins y.2.2.1 (g_E M).1 else (g_E M).1) := fun e => by
      rw [ck (fun z => by rw [z] at e; exact absurd e (by decide)), if_pos e]
      exact m_ins_has _
    have kw : ¬ y.2.1 = 6 → y.2.2.1 ∈ kp_W W y := fun e => by
      unfold kp_W
      rw [if_neg e]
      exact List.mem_cons_self
    rcases s_in6 h6 with e | e | e | e | e | e | e
    · exact Or.inr (Or.inr (Or.inl ⟨Or.inl e, h4, nm (by rw [e]; decide), kw (by rw [e]; decide), Or.inl o⟩))
    · exact Or.inr (Or.inl ⟨e, h4, nm (by rw [e]; decide), by omega⟩)
    · exact Or.inr (Or.inr (Or.inl ⟨Or.inr (Or.inl e), h4, nm (by rw [e]; decide), kw (by rw [e]; decide), Or.inl o⟩))
    · exact Or.inr (Or.inr (Or.inl ⟨Or.inr (Or.inr (Or.inl e)), h4, nm (by rw [e]; decide), kw (by rw [e]; decide), Or.inl o⟩))
    · exact Or.inr (Or.inr (Or.inl ⟨Or.inr (Or.inr (Or.inr (Or.inl e))), h4, nm (by rw [e]; decide), kw (by rw [e]; decide), Or.inl o⟩))
    · exact Or.inr (Or.inr (Or.inl ⟨Or.inr (Or.inr (Or.inr (Or.inr e))), h4, nm (by rw [e]; decide), kw (by rw [e]; decide), Or.inl o⟩))
    · exact Or.inr (Or.inr (Or.inr ⟨e, h4, Or.inl o⟩))
  · have e : m_ck y = 6 := by
      unfold m_ck
      rw [if_neg (fun z => by rw [h1] at z; exact absurd z.1 (by decide)), if_neg (fun z => by rw [h3] at z; exact absurd z.2 (by decide +kernel)), h1]
    have hl : s_cd (-5) 0 10000 < 1331000000000 - 1 := by decide +kernel
    exact ⟨⟨by rw [h3]; omega, by rw [h4]; omega, Or.inr (Or.inr (Or.inr ⟨h1, by rw [h4, h3], Or.inr (Or.inl h3)⟩))⟩, fun z => by rw [e] at z; exact absurd z (by decide)⟩
theorem iK_ins {E : e_S} {c : Nat} (I : i_K E) (hc : c < 1331000000000) : i_K (m_ins c E.1, E.2) := by
  refine ⟨m_ins_srt I.1, fun x hx => ?_, fun x hx => ?_⟩
  · obtain ⟨a, h⟩ := I.2.1 x hx
    exact ⟨a, m_ins_mem h⟩
  · rcases m_ins_of hx with e | h
    · rw [e]; exact hc
    · exact I.2.2 x h
theorem I_kp {i N w N' : Nat} {M M' : s_M} (I : i_I i M N w) (z : z_kp M M') (hN : N' ≤ N + 12) : i_I (i + 1) M' N' w := by
  rcases z with rfl | ⟨t, y, ht, hb, hlen, rfl, hy⟩
  · exact I_0 I hN
  · obtain ⟨W, S, R, V, Vs, a, s, b, p, C, D, X, Y, Np, ⟨⟨g1, g2, g3⟩, hS, gX, gC, gN, g4, g5, g6⟩⟩ := I
    have K := hS.1.2
    obtain ⟨y1, y2⟩ := kp_at K hy W R
    have hE : g_E (g_kp M t y) = ((if m_ck y < 6 then m_ins y.2.2.1 (g_E M).1 else (g_E M).1), (g_E M).2) := rfl
    have hK' : i_K (g_E (g_kp M t y)) := by
      rw [hE]
      split
      · rename_i h; exact iK_ins K (y2 h).2
      · exact K
    have hkm : ∀ c, z_nm c (g_E M).1 → z_nm c (g_E (g_kp M t y)).1 := fun c h => by
      rw [hE]
      show z_nm c (if m_ck y < 6 then m_ins y.2.2.1 (g_E M).1 else (g_E M).1)
      split
      · obtain ⟨q, h⟩ := h; exact ⟨q, m_ins_mem h⟩
      · exact h
    have hk2 : ∀ x ∈ (g_E (g_kp M t y)).1, z_nm x.1 (g_E M).1 ∨ (y_K x.1 ∧ ¬ x.1 / 121000000 = 996) := fun x hx => by
      rw [hE] at hx
      have hx : x ∈ (if m_ck y < 6 then m_ins y.2.2.1 (g_E M).1 else (g_E M).1) := hx
      split at hx
      · rename_i h
        rcases m_ins_of hx with e | e
        · right
          rw [e]
          rcases (y2 h).1 with o | o
          · exact ⟨fun z => by omega, by omega⟩
          · exact ⟨fun z => by omega, by omega⟩
        · exact Or.inl ⟨x.2, e⟩
      · exact Or.inl ⟨x.2, hx⟩
    have hkl : (g_E (g_kp M t y)).1.length ≤ 22 * (i + 1) := by
      have h0 := hS.2.2.2.2.1.1
      rw [hE]
      show (if m_ck y < 6 then m_ins y.2.2.1 (g_E M).1 else (g_E M).1).length ≤ _
      split
      · have := m_ins_len y.2.2.1 (g_E M).1; omega
      · omega
    have hW : ∀ c ∈ W, c ∈ kp_W W y := fun c h => by
      unfold kp_W
      split
      · exact h
      · exact List.mem_cons_of_mem _ h
    have hWl : W.length ≤ (kp_W W y).length := by
      unfold kp_W
      split
      · exact Nat.le_refl _
      · exact Nat.le_succ _
    have ev : g_V (g_kp M t y) = g_V M := V_kp K.1 K.2.1
    obtain ⟨x1, x2, x3, x4, x5, x6⟩ := gX t ht
    refine ⟨kp_W W y, S, R, V, Vs, a + 1, s, b, p + 1, C, D, X, Y, Np, ⟨⟨i1_mono (i1_kp1 g1 ht) (by omega) (Nat.le_succ _), ⟨g2.1, g2.2.1, by have := g2.2.2.1; exact Nat.le_succ_of_le this, g2.2.2.2⟩, ?_⟩, ?_, ?_, ?_, iN_p gN ?_, by omega, Y_p g5, by omega⟩⟩
    · show g_ser M + 1 ≤ _
      omega
    · exact S_same hS (Nat.le_succ _) hW (fun _ h => h) hS.2.2.1.2.2.1.2 hWl (Nat.le_refl _) rfl rfl rfl rfl hK' hk2 hkl ev
    · refine iX_tx gX (x := ((g_X M t).1, (g_X M t).2.1 ++ [y], (g_X M t).2.2)) rfl ?_ hkm hW (fun _ h => h) (Nat.le_succ _) (Nat.le_refl _)
      have l1 : ((g_X M t).2.1 ++ [y]).length ≤ 12 := by rw [List.length_append]; show _ + 1 ≤ 12; omega
      have l2 := cy_le ((g_X M t).2.1 ++ [y])
      have l3 := w1_le ((g_X M t).2.1 ++ [y])
      have l4 := s6_le ((g_X M t).2.1 ++ [y])
      refine ⟨fun x hx => ?_, ?_, ?_, ?_, ?_, ?_⟩
      · rcases List.mem_append.mp hx with h | h
        · exact yy_mono hkm hW (fun _ h => h) (x1 x h)
        · have : x = y := by simpa using h
          rw [this]
          exact y1
      · show (g_X M t).2.2.length ≤ _; omega
      · show ((g_X M t).2.1 ++ [y]).length ≤ _; omega
      · show z_cy ((g_X M t).2.1 ++ [y]) ≤ _; omega
      · show z_sum z_w1 ((g_X M t).2.1 ++ [y]) ≤ _; omega
      · show z_sum z_s6 ((g_X M t).2.1 ++ [y]) ≤ _; omega
    · have kc := zcr_kp (n := g_n M) (x := g_X M t) (x' := ((g_X M t).1, (g_X M t).2.1 ++ [y], (g_X M t).2.2)) hlen rfl rfl
      have e : z_C (g_kp M t y) = z_C (g_tx M t ((g_X M t).1, (g_X M t).2.1 ++ [y], (g_X M t).2.2)) := rfl
      by_cases e6 : y.2.1 = 6
      · have h := zC_tx (M := M) ht kc.1
        have ew : kp_W W y = W := if_pos e6
        rw [ew]
        exact ⟨by have := gC.1; omega, by have := gC.2.1; omega, gC.2.2⟩
      · have h := zC_tx (M := M) (k := 0) ht (kc.2 e6)
        have ew : (kp_W W y).length = W.length + 1 := by unfold kp_W; rw [if_neg e6]; rfl
        exact ⟨by have := gC.1; omega, by have := gC.2.1; omega, gC.2.2⟩
    · have := z4_up (f := fun u => z_b (g_X M u).1.1) (g := fun u => z_b (g_X (g_kp M t y) u).1.1) ht (fun u hu => by show z_b (if u = t then _ else g_X M u).1.1 = _; rw [if_neg hu])
      have e2 : z_b (g_X (g_kp M t y) t).1.1 ≤ 1 := zb_le _
      show (if g_los M = 0 then 0 else 1) + z_4 (fun u => z_b (g_X (g_kp M t y) u).1.1) ≤ _
      omega
end
section
/-! LIMITS THAT FOLLOW; COMMITS -/
theorem G_lim {W S R V Vs : List Nat} {i a s b p C D X Np : Nat} {M : s_M} (hS : i_S W S R V Vs i s b C X Np M) (h1 : 2 * W.length + 4 * R.length ≤ 11 * a) (h2 : 2 * W.length + 4 * R.length + 2 * S.length ≤ 11 * (a + s)) (hN : a + s + b ≤ i ∧ 2 * C + 2 * p ≤ 2 * a + 2 * s + b ∧ D ≤ p ∧ X ≤ D * C ∧ 2 * X ≤ C * C) (hi : i ≤ 512) (hn : g_n M < 9000) :
    e_lim (g_E M) ∧ (g_V M).length ≤ 2816 ∧ (g_PT M).length ≤ 1409 ∧ 8 * Np ≤ 422816 := by
  obtain ⟨q1, q2, q3, q4, q5⟩ := hN
  have hT := T_max (D := D) (p := p) hS.2.2.2.2.2 (by omega) (by omega) q2 q3 q4 q5
  have hv := (S_T hS hn).2
  obtain ⟨n1, n2⟩ := hS.2.2.2.2.1
  obtain ⟨p1, p2, p3, p4⟩ := hS.2.2.2.1
  have e : z_T (g_n M) (g_E M) = (g_E M).2.1.length + (g_V M).length := rfl
  exact ⟨⟨by omega, hT, by omega⟩, by omega, by omega, by omega⟩
theorem A_lim {i N w : Nat} {M : s_M} {W S R V Vs : List Nat} {a s b p C D X Y Np : Nat} (I : i_A i M N w W S R V Vs a s b p C D X Y Np) (hi : i ≤ 512) : e_lim (g_E M) ∧ (g_V M).length ≤ 2816 ∧ (g_PT M).length ≤ 1409 ∧ 8 * Np ≤ 422816 := by
  obtain ⟨⟨g1, g2, g3⟩, hS, gX, gC, gN, g4⟩ := I
  obtain ⟨n1, n2, n3, n4, n5, n6, n7, n8⟩ := gN
  have := g1.1
  exact G_lim (D := D) (p := p) (a := a) hS (by have := gC.1; omega) (by have := gC.2.1; omega) ⟨n1, n2, by omega, n4, n5⟩ hi (by omega)
theorem ps_of {M : s_M} {E' : e_S} (h1 : (g_PT M).length ≤ 1409) (h2 : (g_V (g_cm M E')).length ≤ 2816) : g_ps M E' := by
  have e : (g_V (g_cm M E')).length = (m_V E'.1 (g_n M + 1) E'.2.1).length := rfl
  unfold g_ps
  omega
theorem z4_up2 {f g : Nat → Nat} {t : Nat} (ht : t < 4) (h : ∀ u, ¬ u = t → g u ≤ f u) : z_4 g + f t ≤ z_4 f + g t := by
  unfold z_4
  have hc : t = 0 ∨ t = 1 ∨ t = 2 ∨ t = 3 := by omega
  rcases hc with rfl | rfl | rfl | rfl
  · have := h 1 (by decide); have := h 2 (by decide); have := h 3 (by decide); omega
  · have := h 0 (by decide); have := h 2 (by decide); have := h 3 (by decide); omega
  · have := h 0 (by decide); have := h 1 (by decide); have := h 3 (by decide); omega
  · have := h 0 (by decide); have := h 1 (by decide); have := h 2 (by decide); omega
theorem z4_ge {f : Nat → Nat} {t : Nat} (ht : t < 4) : f t ≤ z_4 f := by
  unfold z_4
  have hc : t = 0 ∨ t = 1 ∨ t = 2 ∨ t = 3 := by omega
  rcases hc with rfl | rfl | rfl | rfl <;> omega
theorem goes_at {M : s_M} {t : Nat} (h : g_goes M t = true) : ¬ 30 < g_n M - (g_X M t).1.2.2.1 := by
  unfold g_goes at h
  simp only [Bool.and_eq_true, Bool.not_eq_true', decide_eq_false_iff_not] at h
  exact h.1.1.2
/-- the store behind a commit of t -/
theorem cm_S {i N w t : Nat} {M : s_M} {W S R V Vs : List Nat} {a s b p C D X Y Np : Nat} (I : i_A i M N w W S R V Vs a s b p C D X Y Np) (hi : i < 512) (ht : t < 4) :
    i_S W (S ++ z_st (g_X M t).2.1 (g_n M + 1)) R V ((g_n M + 1) :: Vs) (i + 1) (s + 1) b (C + 1) (X + C) (Np + g_sp M (e_all (g_n M + 1) (g_X M t).2.1 (g_E M))) (g_cm M (e_all (g_n M + 1) (g_X M t).2.1 (g_E M))) ∧ ∀ c, z_nm c (g_E M).1 → z_nm c (e_all (g_n M + 1) (g_X M t).2.1 (g_E M)).1 := by
  obtain ⟨⟨g1, g2, g3⟩, hS, gX, gC, gN, g4⟩ := I
  obtain ⟨x1, x2, x3, x4, x5, x6⟩ := gX t ht
  have hn : g_n M < 8999 := by have := g1.1; omega
  have hc := c_cd (W := W) (R := R) (E := g_E M) (n := g_n M) hn x1
  have z := zP_all hc hS.1.2 (c_ok (n := g_n M + 1) x1)
  refine ⟨S_cm (e := C) hS (by omega) gC.2.2 z hc (fun c v q => ?_) (iV_cm hS.2.2.1 hS.1.1.2.1 hn g1.2.2.2.2.1 z (fun c v q => ?_) (fun c q e => ?_) (fun c h => List.mem_append.mpr (Or.inl h))) ?_ x5 ?_, fun c h => zP_keys z h⟩
  · obtain ⟨-, q2, q3, -, q5, -⟩ := cA_at hn x1 q
    exact ⟨q2, q3, q5⟩
  · obtain ⟨-, -, -, q4, q5, q6⟩ := cA_at hn x1 q
    refine ⟨?_, q5, fun e => q6 (by rw [e]; exact co2_ly)⟩
    rcases q4 with q4 | q4
    · exact Or.inl q4
    · exact Or.inr (List.mem_append.mpr (Or.inr q4))
  · exact (cB_at x1 q).2 (by rw [e]; exact co2_ly)
  · have : z_sum z_c1 (g_X M t).2.1 + z_sum z_c2 (g_X M t).2.1 ≤ 33 + C := x4
    omega
  · omega
theorem cm_lim {i N w t : Nat} {M : s_M} (I : i_I i M N w) (hi : i < 512) (ht : t < 4) (hb : (g_X M t).1.1 = true) (hg : g_goes M t = true) : g_ps M (e_all (g_n M + 1) (g_X M t).2.1 (g_E M)) ∧ e_lim (e_all (g_n M + 1) (g_X M t).2.1 (g_E M)) := by
  obtain ⟨W, S, R, V, Vs, a, s, b, p, C, D, X, Y, Np, I⟩ := I
  have l0 := A_lim I (by omega)
  obtain ⟨hS, -⟩ := cm_S I hi ht
  obtain ⟨⟨g1, g2, g3⟩, -, gX, gC, gN, g4⟩ := I
  obtain ⟨x1, x2, x3, x4, x5, x6⟩ := gX t ht
  have ge := z4_ge (f := fun u => z_cr (g_n M) (g_X M u)) ht
  have zc : z_cr (g_n M) (g_X M t) ≤ z_C M := by unfold z_C; exact Nat.le_trans ge (Nat.le_add_right _ _)
  have ze := zcr_end x6 (goes_at hg)
  have gb : z_b (g_X M t).1.1 ≤ z_4 (fun t => z_b (g_X M t).1.1) := z4_ge (f := fun t => z_b (g_X M t).1.1) ht
  rw [hb] at gb
  have gb : 1 ≤ z_4 (fun t => z_b (g_X M t).1.1) := gb
  obtain ⟨n1, n2, n3, n4, n5, n6, n7, n8⟩ := gN
  have e1 : (D + 1) * (C + 1) = D * C + D + C + 1 := by rw [Nat.mul_add, Nat.add_mul]; omega
  have e2 : (C + 1) * (C + 1) = C * C + C + C + 1 := by rw [Nat.mul_add, Nat.add_mul]; omega
  have hn : g_n M < 8999 := by have := g1.1; omega
  have l := G_lim (D := D + 1) (p := p) (a := a) hS (by have := gC.1; omega) (by have := gC.2.1; rw [List.length_append, st_len]; omega) ⟨by omega, by omega, by omega, by omega, by omega⟩ hi (by show g_n M + 1 < 9000; omega)
  exact ⟨ps_of l0.2.2.1 l.2.1, l.1⟩
theorem Y_c {p C Y : Nat} (h : Y ≤ p * C) : Y ≤ p * (C + 1) := by rw [Nat.mul_add]; omega
theorem iD_same {i : Nat} {M M' : s_M} (h : i_D i M) (e : g_DS M' = g_DS M) : i_D (i + 1) M' := by
  unfold i_D
  rw [e]
  exact ⟨h.1, h.2.1, Nat.le_succ_of_le h.2.2.1, h.2.2.2⟩
theorem z4_bg {M M' : s_M} {t : Nat} (ht : t < 4) (h : ∀ u, ¬ u = t → g_X M' u = g_X M u) : z_4 (fun u => z_b (g_X M' u).1.1) + z_b (g_X M t).1.1 = z_4 (fun u => z_b (g_X M u).1.1) + z_b (g_X M' t).1.1 :=
  z4_up (f := fun u => z_b (g_X M u).1.1) (g := fun u => z_b (g_X M' u).1.1) ht (fun u hu => by rw [h u hu])
theorem I_ov {i N w t N' : Nat} {M M1 : s_M} (I : i_I i M N w) (ht : t < 4) (h : M1 = M ∨ ∃ v, M1 = g_sw M v) (hN : N' ≤ N + 12) : i_I (i + 1) (g_tx M1 t (g_ov (g_X M1 t))) N' w := by
  have key : ∀ M1 : s_M, g_n M1 = g_n M → g_E M1 = g_E M → g_MK M1 = g_MK M → g_PT M1 = g_PT M → g_X M1 = g_X M → g_los M1 = g_los M → g_ser M1 = g_ser M → g_DS M1 = g_DS M → (∀ n g, i_1 n g M → i_1 n g M1) → i_I (i + 1) (g_tx M1 t (g_ov (g_X M1 t))) N' w := by
    intro M1 e1 e2 e3 e4 e5 e6 e7 e8 h1
    refine I_pre I _ hN e1 e2 e3 e4 (fun n g z => i1_ov (h1 n g z) ht) (fun i z => by unfold i_D; show d_ok (g_DS M1) ∧ d_many (g_DS M1).1 ≤ 9 ∧ (g_DS M1).2 ≤ i + 1 ∧ (g_DS M1).1.length ≤ 10; rw [e8]; exact z) e7 (fun W R C z => ?_) ?_ ?_
    · refine iX_tx (t := t) (x := g_ov (g_X M1 t)) z ?_ (ix_nil rfl rfl) (fun c h => by show z_nm c (g_E M1).1; rw [e2]; exact h) (fun _ h => h) (fun _ h => h) (Nat.le_succ _) (Nat.le_refl _)
      show (fun q => if q = t then g_ov (g_X M1 t) else g_X M1 q) = _
      rw [e5]
    · have h2 : z_C M1 = z_C M := by unfold z_C z_los; rw [e1, e5, e6]
      have := zC_tx (M := M1) (x := g_ov (g_X M1 t)) ht (k := 0) (by rw [zcr_nil rfl]; exact Nat.zero_le _)
      omega
    · have := z4_bg (M := M) (M' := g_tx M1 t (g_ov (g_X M1 t))) ht (fun u hu => by show (if u = t then _ else g_X M1 u) = _; rw [if_neg hu, e5])
      have e9 : z_b (g_X (g_tx M1 t (g_ov (g_X M1 t))) t).1.1 ≤ 1 := zb_le _
      show (if g_los M1 = 0 then 0 else 1) + z_4 (fun u => z_b (g_X (g_tx M1 t (g_ov (g_X M1 t))) u).1.1) ≤ _
      rw [e6]
      omega
  rcases h with rfl | ⟨v, rfl⟩
  · exact key _ rfl rfl rfl rfl rfl rfl rfl rfl (fun _ _ z => z)
  · exact key _ rfl rfl rfl rfl rfl rfl rfl rfl (fun _ _ z => z)
theorem I_commit {i N w : Nat} {M : s_M} {x : Int32} (I : i_I i M N w) (hi : i < 512) : ∃ k, (s_inB x 0 3 = true → (g_X M (t_of x)).1.1 = true → f_td M (t_of x) = (M, -2147483648) → ¬ g_los M = 2 → g_sp M (e_all (g_n M + 1) (g_X M (t_of x)).2.1 (g_E M)) ≤ k) ∧ i_I (i + 1) (F_commit M x).1 (N + 1 + k) w := by
  obtain ⟨W, S, R, V, Vs, a, s, b, p, C, D, X, Y, Np, I0⟩ := id I
  obtain ⟨⟨g1, g2, g3⟩, hS, gX, gC, gN, g4, g5, g6⟩ := id I0
  have hn : g_n M < 8999 := by have := g1.1; omega
  cases hin : s_inB x 0 3 with
  | false => exact ⟨0, fun z => (by cases z), by unfold F_commit; rw [if_pos hin]; exact I_0 I (by omega)⟩
  | true =>
    have ht := z_t4 hin
    cases hb : (g_X M (t_of x)).1.1 with
    | false => exact ⟨0, fun _ z => (by cases z), by unfold F_commit; rw [if_neg (by rw [hin]; decide), if_pos hb]; exact I_0 I (by omega)⟩
    | true =>
      have hF : (F_commit M x).1 = (f_commit M (t_of x)).1 := by unfold F_commit; rw [if_neg (by rw [hin]; decide), if_neg (by rw [hb]; decide)]
      rw [hF]
      generalize t_of x = t at ht hb
      obtain ⟨x1, x2, x3, x4, x5, x6⟩ := gX t ht
      obtain ⟨r1, r2, r3⟩ := g1.2.2.2.1 t ht
      rcases td_cm (M := M) (t := t) (by omega) r1 r3 with ⟨c1, e⟩ | ⟨c1, hg, e⟩
      · refine ⟨0, fun _ _ z => absurd (by rw [z]) c1, ?_⟩
        rw [e]
        exact I_ov I ht z_td (by omega)
      · by_cases l2 : g_los M = 2
        · refine ⟨0, fun _ _ _ z => absurd l2 z, ?_⟩
          rw [e, if_pos l2]
          refine I_pre I (g_sl M 0) (by omega) rfl rfl rfl rfl (fun n g h => i1_sl h (by decide)) (fun _ h => h) rfl (fun W R C h => iX_same rfl rfl h) ?_ ?_
          · unfold z_C z_los
            show z_4 (fun t => z_cr (g_n M) (g_X M t)) + 0 ≤ _
            omega
          · show 0 + z_4 (fun t => z_b (g_X M t).1.1) ≤ _
            omega
        · obtain ⟨hS', hk⟩ := cm_S I0 hi ht
          refine ⟨g_sp M (e_all (g_n M + 1) (g_X M t).2.1 (g_E M)), fun _ _ _ _ => Nat.le_refl _, ?_⟩
          rw [e, if_neg l2]
          have gb : z_b (g_X M t).1.1 = 1 := by rw [hb]; rfl
          have gX1 : i_X W R (i + 1) (C + 1) (g_did M t) := by
            refine iX_tx (x := g_dn (g_X M t) (g_n M + 1)) gX rfl ?_ hk (fun _ h => h) (fun _ h => h) (Nat.le_succ _) (Nat.le_succ _)
            exact ix_mono (x := g_X M t) (gX t ht) hk (fun _ h => h) (fun _ h => h) (Nat.le_succ _) (Nat.le_succ _)
          have e0 : g_X (g_did M t) t = g_dn (g_X M t) (g_n M + 1) := by show (if t = t then _ else _) = _; rw [if_pos rfl]
          by_cases l1 : g_los M = 1
          · rw [if_pos l1]
            have hz := z4_up2 (f := fun u => z_cr (g_n M) (g_X M u)) (g := fun u => z_cr (g_n M + 1) (g_X (g_did M t) u)) ht (fun u hu => by show z_cr _ (if u = t then _ else g_X M u) ≤ _; rw [if_neg hu]; exact zcr_n _ (Nat.le_succ _))
            have hz2 := zcr_lost r1 x6 (goes_at hg)
            have e2 : z_cr (g_n M + 1) (g_X (g_did M t) t) = z_cr (g_n M + 1) (g_X M t) := by rw [e0]; exact zcr_hd rfl rfl
            have e3 : z_cr (g_n M + 1) (g_X M t) ≤ z_cr (g_n M) (g_X M t) := zcr_n _ (Nat.le_succ _)
            have zc1 : z_C (g_did M t) = z_4 (fun u => z_cr (g_n M + 1) (g_X (g_did M t) u)) := rfl
            have zc2 : z_C M = z_4 (fun u => z_cr (g_n M) (g_X M u)) + 11 := by unfold z_C z_los; rw [if_neg (by omega)]
            rw [e2] at hz
            refine ⟨W, _, R, V, _, a, s + 1, b, p, C + 1, D + 1, X + C, Y, _, ⟨⟨i1_mono (i1_did g1 ht) (by omega) (Nat.le_succ _), iD_same g2 rfl, by show g_ser M ≤ _; omega⟩, hS', gX1, iC_s gC (by rw [zc1, zc2]; omega) (by rw [zc1, zc2, st_len]; omega), iN_d gN ?_, by omega, Y_c g5, by omega⟩⟩
            have h9 := z4_bg (M := M) (M' := g_did M t) ht (fun u hu => by show (if u = t then _ else g_X M u) = _; rw [if_neg hu])
            have e9 : z_b (g_X (g_did M t) t).1.1 = z_b (g_X M t).1.1 := by rw [e0]; rfl
            show 0 + z_4 (fun t_1 => z_b (g_X (g_did M t) t_1).1.1) + 1 ≤ (if g_los M = 0 then 0 else 1) + _
            rw [if_neg (by omega)]
            omega
          · rw [if_neg l1]
            have l0 : g_los M = 0 := by have := g1.2.2.1; omega
            have gX2 : i_X W R (i + 1) (C + 1) (g_tx (g_did M t) t (g_ov (g_X (g_did M t) t))) := by
              refine iX_tx (x := g_ov (g_X (g_did M t) t)) gX1 rfl (ix_nil rfl rfl) (fun _ h => h) (fun _ h => h) (fun _ h => h) (Nat.le_refl _) (Nat.le_refl _)
            have hz := z4_up2 (f := fun u => z_cr (g_n M) (g_X M u)) (g := fun u => z_cr (g_n M + 1) (g_X (g_tx (g_did M t) t (g_ov (g_X (g_did M t) t))) u)) ht (fun u hu => by
              show z_cr _ (if u = t then _ else (if u = t then _ else g_X M u)) ≤ _
              rw [if_neg hu, if_neg hu]
              exact zcr_n _ (Nat.le_succ _))
            have hz2 := zcr_end x6 (goes_at hg)
            have e2 : z_cr (g_n M + 1) (g_X (g_tx (g_did M t) t (g_ov (g_X (g_did M t) t))) t) = 0 := by
              show z_cr _ (if t = t then _ else _) = 0
              rw [if_pos rfl]
              exact zcr_nil rfl
            have zc1 : z_C (g_tx (g_did M t) t (g_ov (g_X (g_did M t) t))) = z_4 (fun u => z_cr (g_n M + 1) (g_X (g_tx (g_did M t) t (g_ov (g_X (g_did M t) t))) u)) := rfl
            have zc2 : z_C M = z_4 (fun u => z_cr (g_n M) (g_X M u)) + 0 := by unfold z_C z_los; rw [if_pos l0]
            rw [e2] at hz
            refine ⟨W, _, R, V, _, a, s + 1, b, p, C + 1, D + 1, X + C, Y, _, ⟨⟨i1_mono (i1_ov (i1_did g1 ht) ht) (by omega) (Nat.le_succ _), iD_same g2 rfl, by show g_ser M ≤ _; omega⟩, hS', gX2, iC_s gC (by rw [zc1, zc2]; omega) (by rw [zc1, zc2, st_len]; omega), iN_d gN ?_, by omega, Y_c g5, by omega⟩⟩
            have h9 := z4_bg (M := M) (M' := g_tx (g_did M t) t (g_ov (g_X (g_did M t) t))) ht (fun u hu => by show (if u = t then _ else (if u = t then _ else g_X M u)) = _; rw [if_neg hu, if_neg hu])
            have e9 : z_b (g_X (g_tx (g_did M t) t (g_ov (g_X (g_did M t) t))) t).1.1 = 0 := by
              show z_b (if t = t then _ else _ : s_X).1.1 = 0
              rw [if_pos rfl]
              rfl
            show 0 + z_4 (fun u => z_b (g_X (g_tx (g_did M t) t (g_ov (g_X (g_did M t) t))) u).1.1) + 1 ≤ (if g_los M = 0 then 0 else 1) + _
            rw [if_pos l0]
            omega
end
