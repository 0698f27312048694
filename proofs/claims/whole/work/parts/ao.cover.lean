/-! WHICH KEYS MAY HAVE A VALUE, NOW AND AT MARKS */ -/
theorem nd_len : ∀ {l m : List Nat}, l.Pairwise (fun x y => ¬ x = y) → (∀ x ∈ l, x ∈ m) → l.length ≤ m.length := by
  intro l
  induction l with
  | nil => intro m _ _; exact Nat.zero_le _
  | cons x l ih =>
    intro m hn h
    obtain ⟨h1, h2⟩ := List.pairwise_cons.mp hn
    have hx := h x List.mem_cons_self
    have := ih (m := m.erase x) h2 (fun y hy => (List.mem_erase_of_ne (fun e => h1 y hy e.symm)).mpr (h y (List.mem_cons_of_mem _ hy)))
    rw [List.length_erase_of_mem hx] at this
    have hp := List.length_pos_of_mem hx
    rw [List.length_cons]
    omega
def z_bm (V R : List Nat) (c : Nat) : Prop := ∃ v ∈ V, ∃ k ∈ R, c = s_cd (-4) (nI v) (nI k)
def z_sn (V : List Nat) (L : List k_E4) (v : Nat) : Prop := ∀ k, k < 100 → ∀ v1 ∈ V, (r_val (s_cd (-4) (nI v1) (nI k)) v L).isSome = true →
  (∀ v2 ∈ V, (r_val (s_cd (-4) (nI v2) (nI k)) v L).isSome = true → v1 = v2) ∧ (o_told (r_val (sv_co 2) v L) = -2147483648 ∨ nI k ≤ o_told (r_val (sv_co 2) v L))
def i_V (W S R V : List Nat) (n : Nat) (L : List k_E4) (MK : List Nat) : Prop :=
  (∀ c, (r_val c n L).isSome = true → c ∈ W ∨ c ∈ S ∨ z_bm V R c) ∧ (∀ v ∈ MK, ∀ c, (r_val c v L).isSome = true → c ∈ W ∨ z_bm V R c) ∧
  ((∀ v ∈ V, v ≤ n) ∧ (∀ k ∈ R, k < 100)) ∧ z_sn V L n ∧ ∀ v ∈ MK, z_sn V L v
theorem bm_mono {V R V' R' : List Nat} (hV : ∀ v ∈ V, v ∈ V') (hR : ∀ v ∈ R, v ∈ R') {c : Nat} (h : z_bm V R c) : z_bm V' R' c := by
  obtain ⟨v, hv, k, hk, e⟩ := h
  exact ⟨v, hV v hv, k, hR k hk, e⟩
theorem iV_mono {W S R V W' R' : List Nat} {n : Nat} {L : List k_E4} {MK : List Nat} (I : i_V W S R V n L MK) (hW : ∀ c ∈ W, c ∈ W') (hR : ∀ c ∈ R, c ∈ R') (hk : ∀ k ∈ R', k < 100) : i_V W' S R' V n L MK := by
  obtain ⟨h1, h2, h3, h4⟩ := I
  refine ⟨fun c hc => ?_, fun v hv c hc => ?_, ⟨h3.1, hk⟩, h4⟩
  · rcases h1 c hc with h | h | h
    · exact Or.inl (hW c h)
    · exact Or.inr (Or.inl h)
    · exact Or.inr (Or.inr (bm_mono (fun _ h => h) hR h))
  · rcases h2 v hv c hc with h | h
    · exact Or.inl (hW c h)
    · exact Or.inr (bm_mono (fun _ h => h) hR h)
theorem sn_cg {V : List Nat} {L L' : List k_E4} {v w : Nat} (h : z_sn V L v) (e : ∀ c, r_val c w L' = r_val c v L) : z_sn V L' w := by
  intro k hk v1 h1 hl
  rw [e] at hl ⊢
  obtain ⟨g1, g2⟩ := h k hk v1 h1 hl
  exact ⟨fun v2 h2 hl2 => g1 v2 h2 (by rw [e] at hl2; exact hl2), g2⟩
theorem iV_adv {W S R V : List Nat} {n m : Nat} {L : List k_E4} {MK : List Nat} (I : i_V W S R V n L MK) (h : ∀ x ∈ L, x.2.2.1 ≤ n) (hnm : n ≤ m) : i_V W S R V m L MK := by
  obtain ⟨h1, h2, h3, h4, h5⟩ := I
  have e : ∀ c, r_val c m L = r_val c n L := fun c => r_val_adv h hnm
  exact ⟨fun c hc => h1 c (by rw [← e]; exact hc), h2, ⟨fun v hv => Nat.le_trans (h3.1 v hv) hnm, h3.2⟩, sn_cg h4 e, h5⟩
theorem iV_mark {W S R V : List Nat} {n : Nat} {L : List k_E4} {MK : List Nat} (I : i_V W S R V n L MK) : i_V (W ++ S) [] R V n L (MK ++ [n]) := by
  obtain ⟨h1, h2, h3, h4, h5⟩ := I
  have g : ∀ c, (r_val c n L).isSome = true → c ∈ W ++ S ∨ z_bm V R c := fun c hc => by
    rcases h1 c hc with h | h | h
    · exact Or.inl (List.mem_append.mpr (Or.inl h))
    · exact Or.inl (List.mem_append.mpr (Or.inr h))
    · exact Or.inr h
  refine ⟨fun c hc => ?_, fun v hv c hc => ?_, h3, h4, fun v hv => ?_⟩
  · rcases g c hc with h | h
    · exact Or.inl h
    · exact Or.inr (Or.inr h)
  · rcases List.mem_append.mp hv with hv | hv
    · rcases h2 v hv c hc with h | h
      · exact Or.inl (List.mem_append.mpr (Or.inl h))
      · exact Or.inr h
    · have : v = n := by simpa using hv
      rw [this] at hc
      exact g c hc
  · rcases List.mem_append.mp hv with hv | hv
    · exact h5 v hv
    · have : v = n := by simpa using hv
      rw [this]
      exact h4
/-- bringing back -/
theorem iV_back {W S R V : List Nat} {n v : Nat} {L L' : List k_E4} {MK : List Nat} (I : i_V W S R V n L MK) (hv : v ∈ MK) (hM : ∀ u ∈ MK, u ≤ n) (e1 : ∀ c, r_val c (n + 1) L' = r_val c v L) (e2 : ∀ c u, u ≤ n → r_val c u L' = r_val c u L) : i_V W [] R V (n + 1) L' MK := by
  obtain ⟨h1, h2, h3, h4, h5⟩ := I
  refine ⟨fun c hc => ?_, fun u hu c hc => ?_, ⟨fun u hu => Nat.le_succ_of_le (h3.1 u hu), h3.2⟩, sn_cg (h5 v hv) e1, fun u hu => sn_cg (h5 u hu) (fun c => e2 c u (hM u hu))⟩
  · rw [e1] at hc
    rcases h2 v hv c hc with h | h
    · exact Or.inl h
    · exact Or.inr (Or.inr h)
  · rw [e2 c u (hM u hu)] at hc
    exact h2 u hu c hc
theorem m4_ly {v k : Nat} (hv : v < 9000) (hk : k < 100) : s_cd (-4) (nI v) (nI k) / 121000000 = 996 ∧ s_dig (s_cd (-4) (nI v) (nI k)) 1 = v + 1000 ∧ s_dig (s_cd (-4) (nI v) (nI k)) 2 = k + 1000 ∧ s_cd (-4) (nI v) (nI k) < 1331000000000 := by
  have n1 := na_100 hv
  have n2 : s_na (nI k) := na_100 (by omega)
  rw [s_cd_div n1 n2, cd_d1 n1 n2, cd_d2 n2, dg_nI hv, dg_nI (by omega)]
  exact ⟨rfl, rfl, rfl, s_cd_lt s_na_m4 n1 n2⟩
theorem co2_ly : sv_co 2 / 121000000 = 994 := by decide +kernel
/-- a commit -/
theorem iV_cm {W S R V S' : List Nat} {n k m f : Nat} {E E' : e_S} {MK : List Nat} {A : Nat → Int32 → Prop} {B : Nat → Prop} (I : i_V W S R V n E.2.1 MK) (hv : ∀ x ∈ E.2.1, x.2.2.1 ≤ n) (hn : n < 8999) (hM : ∀ u ∈ MK, u ≤ n) (z : z_P (n + 1) A B E E' k m f)
    (hA : ∀ c v, A c v → (c ∈ W ∨ c ∈ S') ∧ (c / 121000000 = 996 → s_dig c 1 = n + 1 + 1000) ∧ ¬ c = sv_co 2) (hB : ∀ c, B c → ¬ c = sv_co 2) (hS : ∀ c ∈ S, c ∈ S') : i_V W S' R V (n + 1) E'.2.1 MK := by
  obtain ⟨h1, h2, h3, h4, h5⟩ := I
  have adv : ∀ c, r_val c (n + 1) E.2.1 = r_val c n E.2.1 := fun c => r_val_adv hv (Nat.le_succ _)
  have ext : ∀ c u, u ≤ n → r_val c u E'.2.1 = r_val c u E.2.1 := fun c u hu => zP_ext z (by omega)
  have st : r_val (sv_co 2) (n + 1) E'.2.1 = r_val (sv_co 2) n E.2.1 := by
    rw [zP_out z (fun v a => (hA _ v a).2.2 rfl) (fun b => hB _ b rfl), adv]
  have old : ∀ v1 ∈ V, ∀ k, k < 100 → (r_val (s_cd (-4) (nI v1) (nI k)) (n + 1) E'.2.1).isSome = true → (r_val (s_cd (-4) (nI v1) (nI k)) n E.2.1).isSome = true := by
    intro v1 hv1 k hk hl
    have hle := h3.1 v1 hv1
    obtain ⟨l1, l2, -⟩ := m4_ly (v := v1) (k := k) (by omega) hk
    rcases zP_live z hl with h | ⟨-, w, a⟩
    · rw [adv] at h; exact h
    · have := (hA _ w a).2.1 l1
      omega
  refine ⟨fun c hc => ?_, fun u hu c hc => ?_, ⟨fun u hu => Nat.le_succ_of_le (h3.1 u hu), h3.2⟩, fun k hk v1 hv1 hl => ?_, fun u hu => sn_cg (h5 u hu) (fun c => ext c u (hM u hu))⟩
  · rcases zP_live z hc with h | ⟨-, w, a⟩
    · rw [adv] at h
      rcases h1 c h with h | h | h
      · exact Or.inl h
      · exact Or.inr (Or.inl (hS c h))
      · exact Or.inr (Or.inr h)
    · rcases (hA c w a).1 with h | h
      · exact Or.inl h
      · exact Or.inr (Or.inl h)
  · rw [ext c u (hM u hu)] at hc
    exact h2 u hu c hc
  · obtain ⟨g1, g2⟩ := h4 k hk v1 hv1 (old v1 hv1 k hk hl)
    rw [st]
    exact ⟨fun v2 hv2 hl2 => g1 v2 hv2 (old v2 hv2 k hk hl2), g2⟩
/-- the index 2 goes off -/
theorem iV_off {W S R V S' : List Nat} {n k m f : Nat} {E E' : e_S} {MK : List Nat} {A : Nat → Int32 → Prop} {B : Nat → Prop} (I : i_V W S R V n E.2.1 MK) (hv : ∀ x ∈ E.2.1, x.2.2.1 ≤ n) (hn : n < 8999) (hM : ∀ u ∈ MK, u ≤ n) (z : z_P (n + 1) A B E E' k m f)
    (hA : ∀ c v, A c v → c ∈ S') (hS : ∀ c ∈ S, c ∈ S') (h0 : ∀ c, c / 121000000 = 996 → r_val c (n + 1) E'.2.1 = none) : i_V W S' R V (n + 1) E'.2.1 MK := by
  obtain ⟨h1, h2, h3, h4, h5⟩ := I
  have adv : ∀ c, r_val c (n + 1) E.2.1 = r_val c n E.2.1 := fun c => r_val_adv hv (Nat.le_succ _)
  have ext : ∀ c u, u ≤ n → r_val c u E'.2.1 = r_val c u E.2.1 := fun c u hu => zP_ext z (by omega)
  refine ⟨fun c hc => ?_, fun u hu c hc => ?_, ⟨fun u hu => Nat.le_succ_of_le (h3.1 u hu), h3.2⟩, fun k hk v1 hv1 hl => ?_, fun u hu => sn_cg (h5 u hu) (fun c => ext c u (hM u hu))⟩
  · rcases zP_live z hc with h | ⟨-, w, a⟩
    · rw [adv] at h
      rcases h1 c h with h | h | h
      · exact Or.inl h
      · exact Or.inr (Or.inl (hS c h))
      · exact Or.inr (Or.inr h)
    · exact Or.inr (Or.inl (hA c w a))
  · rw [ext c u (hM u hu)] at hc
    exact h2 u hu c hc
  · have hle := h3.1 v1 hv1
    rw [h0 _ (m4_ly (v := v1) (k := k) (by omega) hk).1] at hl
    cases hl
/-- the index 2 is built -/
theorem iV_bld {W S R V S' : List Nat} {n k m f : Nat} {E E' : e_S} {MK : List Nat} {A : Nat → Int32 → Prop} {B : Nat → Prop} {st st' : Int32} (I : i_V W S R V n E.2.1 MK) (hv : ∀ x ∈ E.2.1, x.2.2.1 ≤ n) (hn : n < 8999) (hM : ∀ u ∈ MK, u ≤ n) (z : z_P (n + 1) A B E E' k m f)
    (hf : ∀ k v, k < 100 → r_val (s_cd (-4) (nI (n + 1)) (nI k)) v E.2.1 = none)
    (e0 : o_told (r_val (sv_co 2) n E.2.1) = st) (hst : ¬ st = -2147483648) (e1 : o_told (r_val (sv_co 2) (n + 1) E'.2.1) = st') (hle : st ≤ st')
    (hA : ∀ c v, A c v → c = sv_co 2 ∨ ∃ k, k < 100 ∧ k ∈ R ∧ c = s_cd (-4) (nI (n + 1)) (nI k) ∧ ¬ nI k ≤ st) (hk9 : ∀ k, k < 100 → (r_val (s_cd (-4) (nI (n + 1)) (nI k)) (n + 1) E'.2.1).isSome = true → nI k ≤ st')
    (hS : ∀ c ∈ S, c ∈ S') (hS2 : sv_co 2 ∈ S') : i_V W S' R ((n + 1) :: V) (n + 1) E'.2.1 MK := by
  obtain ⟨h1, h2, h3, h4, h5⟩ := I
  have adv : ∀ c, r_val c (n + 1) E.2.1 = r_val c n E.2.1 := fun c => r_val_adv hv (Nat.le_succ _)
  have ext : ∀ c u, u ≤ n → r_val c u E'.2.1 = r_val c u E.2.1 := fun c u hu => zP_ext z (by omega)
  have bmV : ∀ c, z_bm V R c → z_bm ((n + 1) :: V) R c := fun c => bm_mono (fun _ h => List.mem_cons_of_mem _ h) (fun _ h => h)
  have old : ∀ v1 ∈ V, ∀ k, k < 100 → (r_val (s_cd (-4) (nI v1) (nI k)) (n + 1) E'.2.1).isSome = true → (r_val (s_cd (-4) (nI v1) (nI k)) n E.2.1).isSome = true := by
    intro v1 hv1 k hk hl
    have hle := h3.1 v1 hv1
    obtain ⟨l1, l2, -⟩ := m4_ly (v := v1) (k := k) (by omega) hk
    rcases zP_live z hl with h | ⟨-, w, a⟩
    · rw [adv] at h; exact h
    · rcases hA _ w a with e | ⟨j, hj, -, e, -⟩
      · rw [e, co2_ly] at l1; cases l1
      · rw [e, (m4_ly (by omega) hj).2.1] at l2; omega
  have new : ∀ k, k < 100 → (r_val (s_cd (-4) (nI (n + 1)) (nI k)) (n + 1) E'.2.1).isSome = true → ¬ nI k ≤ st := by
    intro k hk hl
    obtain ⟨l1, l2, l3, -⟩ := m4_ly (v := n + 1) (k := k) (by omega) hk
    rcases zP_live z hl with h | ⟨-, w, a⟩
    · rw [hf k _ hk] at h; cases h
    · rcases hA _ w a with e | ⟨j, hj, -, e, g⟩
      · rw [e, co2_ly] at l1; cases l1
      · rw [e, (m4_ly (by omega) hj).2.2.1] at l3
        have : j = k := by omega
        rw [← this]
        exact g
  refine ⟨fun c hc => ?_, fun u hu c hc => ?_, ⟨fun u hu => ?_, h3.2⟩, fun k hk v1 hv1 hl => ?_, fun u hu => ?_⟩
  · rcases zP_live z hc with h | ⟨-, w, a⟩
    · rw [adv] at h
      rcases h1 c h with h | h | h
      · exact Or.inl h
      · exact Or.inr (Or.inl (hS c h))
      · exact Or.inr (Or.inr (bmV c h))
    · rcases hA c w a with e | ⟨j, hj, hR, e, -⟩
      · exact Or.inr (Or.inl (by rw [e]; exact hS2))
      · exact Or.inr (Or.inr ⟨n + 1, List.mem_cons_self, j, hR, e⟩)
  · rw [ext c u (hM u hu)] at hc
    rcases h2 u hu c hc with h | h
    · exact Or.inl h
    · exact Or.inr (bmV c h)
  · rcases List.mem_cons.mp hu with rfl | hu
    · exact Nat.le_refl _
    · exact Nat.le_succ_of_le (h3.1 u hu)
  · rw [e1]
    rcases List.mem_cons.mp hv1 with rfl | hv1'
    · refine ⟨fun v2 hv2 hl2 => ?_, Or.inr (hk9 k hk hl)⟩
      rcases List.mem_cons.mp hv2 with rfl | hv2
      · rfl
      · rcases (h4 k hk v2 hv2 (old v2 hv2 k hk hl2)).2 with g | g
        · rw [e0] at g; exact absurd g hst
        · rw [e0] at g; exact absurd g (new k hk hl)
    · obtain ⟨g1, g2⟩ := h4 k hk v1 hv1' (old v1 hv1' k hk hl)
      rw [e0] at g2
      have g3 : nI k ≤ st := by
        rcases g2 with g | g
        · exact absurd g hst
        · exact g
      refine ⟨fun v2 hv2 hl2 => ?_, Or.inr (Int32.le_trans g3 hle)⟩
      rcases List.mem_cons.mp hv2 with rfl | hv2
      · exact absurd g3 (new k hk hl2)
      · exact g1 v2 hv2 (old v2 hv2 k hk hl2)
  · have hu' := hM u hu
    have no : ∀ k, k < 100 → ¬ (r_val (s_cd (-4) (nI (n + 1)) (nI k)) u E'.2.1).isSome = true := fun k hk g => by
      rw [ext _ u hu', hf k u hk] at g; cases g
    intro k hk v1 hv1 hl
    rcases List.mem_cons.mp hv1 with rfl | hv1
    · exact absurd hl (no k hk)
    · obtain ⟨g1, g2⟩ := sn_cg (h5 u hu) (fun c => ext c u hu') k hk v1 hv1 hl
      refine ⟨fun v2 hv2 hl2 => ?_, g2⟩
      rcases List.mem_cons.mp hv2 with rfl | hv2
      · exact absurd hl2 (no k hk)
      · exact g1 v2 hv2 hl2
/-! .. how many -/
theorem ln_W {W : List Nat} {X : List k_K2} (s : X.Pairwise (fun x y => x.1 < y.1)) (h : ∀ x ∈ X, x.1 ∈ W) : X.length ≤ W.length := by
  have := nd_len (l := X.map (fun x => x.1)) (m := W) (List.pairwise_map.mpr (s.imp (fun {a b} h => by have h' : a.1 < b.1 := h; show ¬ a.1 = b.1; omega))) (fun c hc => by
    obtain ⟨x, hx, rfl⟩ := List.mem_map.mp hc
    exact h x hx)
  rw [List.length_map] at this
  exact this
theorem ln_R {V R : List Nat} {L : List k_E4} {v : Nat} {X : List k_K2} (hV : ∀ u ∈ V, u < 9000) (hR : ∀ k ∈ R, k < 100) (hs : z_sn V L v) (s : X.Pairwise (fun x y => x.1 < y.1)) (h : ∀ x ∈ X, z_bm V R x.1 ∧ (r_val x.1 v L).isSome = true) : X.length ≤ R.length := by
  have := nd_len (l := X.map (fun x => s_dig x.1 2)) (m := R.map (fun k => k + 1000)) (List.pairwise_map.mpr (s.imp_of_mem (fun {a b} ha hb hab e => by
    obtain ⟨⟨v1, m1, k1, n1, e1⟩, l1⟩ := h a ha
    obtain ⟨⟨v2, m2, k2, n2, e2⟩, l2⟩ := h b hb
    have d1 := (m4_ly (hV v1 m1) (hR k1 n1)).2.2.1
    have d2 := (m4_ly (hV v2 m2) (hR k2 n2)).2.2.1
    rw [e1, e2, d1, d2] at e
    have ek : k1 = k2 := by omega
    subst ek
    rw [e1] at l1
    rw [e2] at l2
    have := (hs k1 (hR k1 n1) v1 m1 l1).1 v2 m2 l2
    rw [e1, e2, this] at hab
    exact absurd hab (Nat.lt_irrefl _)))) (fun c hc => by
    obtain ⟨x, hx, rfl⟩ := List.mem_map.mp hc
    obtain ⟨⟨v1, m1, k1, n1, e1⟩, -⟩ := h x hx
    refine List.mem_map.mpr ⟨k1, n1, ?_⟩
    rw [e1, (m4_ly (hV v1 m1) (hR k1 n1)).2.2.1])
  rw [List.length_map, List.length_map] at this
  exact this
theorem ln_sp {α : Type} (p : α → Bool) (X : List α) : X.length = (X.filter p).length + (X.filter (fun x => !p x)).length := by
  induction X with
  | nil => rfl
  | cons x X ih =>
    rw [List.filter_cons, List.filter_cons, List.length_cons, ih]
    cases p x
    · simp; omega
    · simp; omega
/-- keys that have a value in one version -/
theorem ln_v {W R V : List Nat} {E : e_S} {v : Nat} (I : i_K E) (hV : ∀ u ∈ V, u < 9000) (hR : ∀ k ∈ R, k < 100) (hs : z_sn V E.2.1 v) (h : ∀ c, (r_val c v E.2.1).isSome = true → c ∈ W ∨ z_bm V R c) : (m_V E.1 v E.2.1).length ≤ W.length + R.length := by
  unfold m_V
  rw [List.length_map, ln_sp (fun x => decide (x.1 ∈ W)) (E.1.filter _)]
  have s : ∀ (p q : k_K2 → Bool), ((E.1.filter p).filter q).Pairwise (fun x y => x.1 < y.1) := fun p q => List.Pairwise.sublist (List.Sublist.trans List.filter_sublist List.filter_sublist) I.1
  have g1 := ln_W (W := W) (s (fun x => (r_val x.1 v E.2.1).isSome) (fun x => decide (x.1 ∈ W))) (fun x hx => by simpa using (List.mem_filter.mp hx).2)
  have g2 := ln_R (V := V) (R := R) (L := E.2.1) (v := v) hV hR hs (s (fun x => (r_val x.1 v E.2.1).isSome) (fun x => !decide (x.1 ∈ W))) (fun x hx => by
    obtain ⟨a, b⟩ := List.mem_filter.mp hx
    have a2 := (List.mem_filter.mp a).2
    refine ⟨?_, a2⟩
    rcases h x.1 a2 with z | z
    · simp [z] at b
    · exact z)
  omega
theorem ln_n {W S R V : List Nat} {n : Nat} {E : e_S} {MK : List Nat} (K : i_K E) (I : i_V W S R V n E.2.1 MK) (hn : n < 9000) : (m_V E.1 n E.2.1).length ≤ W.length + S.length + R.length := by
  have := ln_v (W := W ++ S) (R := R) (V := V) K (fun u hu => Nat.lt_of_le_of_lt (I.2.2.1.1 u hu) hn) I.2.2.1.2 I.2.2.2.1 (fun c hc => by
    rcases I.1 c hc with h | h | h
    · exact Or.inl (List.mem_append.mpr (Or.inl h))
    · exact Or.inl (List.mem_append.mpr (Or.inr h))
    · exact Or.inr h)
  rw [List.length_append] at this
  exact this
theorem ln_m {W S R V : List Nat} {n v : Nat} {E : e_S} {MK : List Nat} (K : i_K E) (I : i_V W S R V n E.2.1 MK) (hn : n < 9000) (hv : v ∈ MK) : (m_V E.1 v E.2.1).length ≤ W.length + R.length :=
  ln_v K (fun u hu => Nat.lt_of_le_of_lt (I.2.2.1.1 u hu) hn) I.2.2.1.2 (I.2.2.2.2 v hv) (I.2.1 v hv)
theorem dif_or {c v n : Nat} {L : List k_E4} (h : bb_oth L n v c = true) : (r_val c n L).isSome = true ∨ (r_val c v L).isSome = true := by
  unfold bb_oth bb_dif at h
  cases e1 : r_val c n L with
  | some x => exact Or.inl rfl
  | none =>
    cases e2 : r_val c v L with
    | some x => exact Or.inr rfl
    | none => rw [e1, e2] at h; exact absurd h (by decide)
/-- keys that a bringing back changes -/
theorem ln_b1 {M : s_M} {v : Nat} : (bb_list M v).length ≤ (m_V (g_E M).1 (g_n M) (g_E M).2.1).length + (m_V (g_E M).1 v (g_E M).2.1).length := by
  unfold bb_list m_V
  rw [List.length_map, List.length_map]
  induction (g_E M).1 with
  | nil => exact Nat.zero_le _
  | cons x K ih =>
    rw [List.filter_cons, List.filter_cons, List.filter_cons]
    by_cases h : bb_oth (g_E M).2.1 (g_n M) v x.1 = true
    · rw [if_pos h]
      rcases dif_or h with g | g
      · rw [if_pos g]
        split <;> simp only [List.length_cons] <;> omega
      · rw [if_pos g]
        split <;> simp only [List.length_cons] <;> omega
    · rw [if_neg h]
      split <;> split <;> (try simp only [List.length_cons]) <;> omega
theorem ln_b2 {W R V : List Nat} {M : s_M} {v : Nat} (K : i_K (g_E M)) (I : i_V W [] R V (g_n M) (g_E M).2.1 (g_MK M)) (hn : g_n M < 9000) (hv : v ∈ g_MK M) : (bb_list M v).length ≤ W.length + 2 * R.length := by
  have hV : ∀ u ∈ V, u < 9000 := fun u hu => Nat.lt_of_le_of_lt (I.2.2.1.1 u hu) hn
  have sb : ∀ p : k_K2 → Bool, ((bb_list M v).filter p).Pairwise (fun x y => x.1 < y.1) := fun p => List.Pairwise.sublist (List.Sublist.trans List.filter_sublist List.filter_sublist) K.1
  rw [ln_sp (fun x => decide (x.1 ∈ W)) (bb_list M v)]
  have g1 := ln_W (W := W) (sb (fun x => decide (x.1 ∈ W))) (fun x hx => by simpa using (List.mem_filter.mp hx).2)
  have e := ln_sp (fun x => (r_val x.1 (g_n M) (g_E M).2.1).isSome) ((bb_list M v).filter (fun x => !decide (x.1 ∈ W)))
  have sb2 : ∀ p q : k_K2 → Bool, (((bb_list M v).filter p).filter q).Pairwise (fun x y => x.1 < y.1) := fun p q => List.Pairwise.sublist List.filter_sublist (sb p)
  have out : ∀ x ∈ (bb_list M v).filter (fun x => !decide (x.1 ∈ W)), ¬ x.1 ∈ W ∧ bb_oth (g_E M).2.1 (g_n M) v x.1 = true := fun x hx => by
    obtain ⟨a, b⟩ := List.mem_filter.mp hx
    exact ⟨by simpa using b, (List.mem_filter.mp a).2⟩
  have g2 := ln_R (V := V) (R := R) (L := (g_E M).2.1) (v := g_n M) hV I.2.2.1.2 I.2.2.2.1 (sb2 (fun x => !decide (x.1 ∈ W)) (fun x => (r_val x.1 (g_n M) (g_E M).2.1).isSome)) (fun x hx => by
    obtain ⟨a, b⟩ := List.mem_filter.mp hx
    refine ⟨?_, b⟩
    rcases I.1 x.1 b with z | z | z
    · exact absurd z (out x a).1
    · cases z
    · exact z)
  have g3 := ln_R (V := V) (R := R) (L := (g_E M).2.1) (v := v) hV I.2.2.1.2 (I.2.2.2.2 v hv) (sb2 (fun x => !decide (x.1 ∈ W)) (fun x => !(r_val x.1 (g_n M) (g_E M).2.1).isSome)) (fun x hx => by
    obtain ⟨a, b⟩ := List.mem_filter.mp hx
    obtain ⟨o1, o2⟩ := out x a
    have hl : (r_val x.1 v (g_E M).2.1).isSome = true := by
      rcases dif_or o2 with z | z
      · rw [z] at b; cases b
      · exact z
    refine ⟨?_, hl⟩
    rcases I.2.1 v hv x.1 hl with z | z
    · exact absurd z o1
    · exact z)
  omega
