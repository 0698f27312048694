/-! THE REFERENCE SAVES AND ERASES RECORDS -/
def g_rk (M : s_M) (t c : Nat) : s_M := g_rdg M t (s_rdk true (g_X M t).2.1 (g_X M t).2.2 c (g_ser M))
def sv_co (i : Int32) : Nat := s_cd (-6) i 10000
def sv_re (n : Int32) : Nat := s_cd (-1) n 10000
def sv_go (M : s_M) (t : Nat) (i n : Int32) : Bool := s_goes (o_told (g_see M t (sv_co i)).1) n
def sv_r4 (M : s_M) (t : Nat) (n : Int32) : s_M := g_rk (g_rk (g_rk (g_rk M t (sv_co 0)) t (sv_co 1)) t (sv_co 2)) t (sv_re n)
def sv_1 (c : Bool) (t : Nat) (k : Int32) (code : Nat) (v p : Int32) (M : s_M) : s_M := if c = true then g_kc M t k code v p else M
def sv_p (g0 g1 had saves : Bool) (t : Nat) (n old field : Int32) (M : s_M) : s_M :=
  sv_1 (g1 && saves) t 2 (s_cd (-3) field 10000) 1 0 (sv_1 (g1 && had) t 2 (s_cd (-3) old 10000) (-1) 0 (sv_1 (g0 && saves) t 0 (s_cd (-2) field n) 0 0 (sv_1 (g0 && had) t 1 (s_cd (-2) old n) 0 0 M)))
def sv_q (c : Bool) (t : Nat) (n : Int32) (M : s_M) : s_M := if c = true then sv_take M t n else M
def sv_f (g2 saves : Bool) (t : Nat) (n field : Int32) (M : s_M) : s_M := g_kc (sv_1 (g2 && saves) t 6 (s_cd (-4) 0 n) field 1 M) t (if saves = true then 0 else 1) (sv_re n) (if saves = true then field else -2147483648) 0
def sv_all (M : s_M) (t : Nat) (n : Int32) (saves : Bool) (field : Int32) : s_M :=
  sv_f (sv_go M t 2 n) saves t n field (sv_q (sv_go M t 2 n && (g_see M t (sv_re n)).1.isSome) t n (sv_p (sv_go M t 0 n) (sv_go M t 1 n) (g_see M t (sv_re n)).1.isSome saves t n (o_told (g_see M t (sv_re n)).1) field (sv_r4 M t n)))
def sv_w (M : s_M) (t : Nat) (n : Int32) (saves : Bool) (field : Int32) : s_M × Int32 :=
  if saves = false ∧ (g_see M t (sv_re n)).1 = none then (sv_r4 M t n, -2147483648) else (sv_all M t n saves field, o_told (g_see M t (sv_re n)).1)
def sv_st (M : s_M) (t : Nat) (n : Int32) : Bool := (g_see M t (sv_co 0)).2 || (g_see M t (sv_co 1)).2 || (g_see M t (sv_co 2)).2 || (g_see M t (sv_re n)).2
def F_saved (M : s_M) (x n : Int32) (saves : Bool) (field : Int32) : s_M × Nat × Int32 :=
  if s_inB x 0 3 = false then (M, 1, 0) else if (s_inB n 0 99 && (!saves || s_inB field 0 99)) = false then (M, 2, 0)
  else if (g_shut M (t_of x) || sv_st M (t_of x) n) = true then (M, 3, 0) else ((sv_w M (t_of x) n saves field).1, 0, (sv_w M (t_of x) n saves field).2)
def F_save (M : s_M) (x n f : Int32) : s_M × Nat × Int32 := F_saved M x n true f
def F_erase (M : s_M) (x n : Int32) : s_M × Nat × Int32 := F_saved M x n false 0
/-- numbers that saves know -/
def sv_N (x : Int32) : Prop := s_na x ∧ s_nm x
theorem sv_n99 {n : Int32} (h : s_inB n 0 99 = true) : s_na n := by
  obtain ⟨e, hle⟩ := s_inN (m := 99) (by decide) h
  rw [e]
  exact e_n_na (by omega)
theorem sv_na {z : Int32} (h : s_nmB z = true) : s_na z := Or.inr (s_nmB_iff.mp h)
def sv_B (M : s_M) (t a b c : Nat) : Prop := (g_X M t).2.1.length ≤ a ∧ (g_E M).1.length ≤ b ∧ g_ser M ≤ c
theorem sv_B_kc {M : s_M} {t a b c : Nat} (h : sv_B M t a b c) (k : Int32) (cd : Nat) (v p : Int32) : sv_B (g_kc M t k cd v p) t (a + 1) (b + 1) (c + 1) := by
  obtain ⟨h1, h2, h3⟩ := h
  refine ⟨?_, ?_, Nat.succ_le_succ h3⟩
  · rw [g_kc_X]
    show ((g_X M t).2.1 ++ [_]).length ≤ _
    rw [List.length_append, List.length_singleton]; omega
  · show (if m_ck (g_ser M + 1, k, cd, cd + 1, v, p) < 6 then m_ins cd (g_E M).1 else (g_E M).1).length ≤ _
    have := m_ins_len cd (g_E M).1
    split <;> omega
theorem sv_B_1 {M : s_M} {t a b c : Nat} (h : sv_B M t a b c) (z : Bool) (k : Int32) (cd : Nat) (v p : Int32) : sv_B (sv_1 z t k cd v p M) t (a + 1) (b + 1) (c + 1) := by
  unfold sv_1
  by_cases e : z = true
  · rw [if_pos e]; exact sv_B_kc h k cd v p
  · rw [if_neg e]; exact ⟨by have := h.1; omega, by have := h.2.1; omega, by have := h.2.2; omega⟩
theorem sv_1_f {z : Bool} (h : z = false) {t : Nat} {k : Int32} {cd : Nat} {v p : Int32} {M : s_M} : sv_1 z t k cd v p M = M := by
  unfold sv_1
  rw [h, if_neg (by decide)]
theorem sv_1_t {z : Bool} (h : z = true) {t : Nat} {k : Int32} {cd : Nat} {v p : Int32} {M : s_M} : sv_1 z t k cd v p M = g_kc M t k cd v p := by
  unfold sv_1
  rw [h, if_pos rfl]
theorem sv_B_rk {M : s_M} {t a b c : Nat} (h : sv_B M t a b c) (d : Nat) : sv_B (g_rk M t d) t a b c := by
  refine ⟨?_, h.2.1, h.2.2⟩
  show ((if t = t then _ else g_X M t) : s_X).2.1.length ≤ a
  rw [if_pos rfl]
  exact h.1
theorem g_sdr_X (M : s_M) (t : Nat) (n : Int32) : g_X (g_sdr M t n) t = ((g_X M t).1, sv_drop n (g_X M t).2.1, (g_X M t).2.2) := by
  show (if t = t then _ else g_X M t) = _
  rw [if_pos rfl]
theorem sv_seen_in {M : s_M} {t : Nat} {n : Int32} {x : k_K2} (h : x ∈ sv_seen M t n) : x ∈ (g_E M).1 := by
  unfold sv_seen at h
  exact (r_flt_of (List.mem_filter.mp h).1).1
theorem sv_take_E {M : s_M} {t : Nat} {n : Int32} (hs : (g_E M).1.Pairwise (fun x y => x.1 < y.1)) : g_E (sv_take M t n) = g_E M :=
  g_cls_E t _ _ hs (fun _ hx => sv_seen_in hx)
theorem sv_B_take {M : s_M} {t a b c : Nat} {n : Int32} (h : sv_B M t a b c) (hs : (g_E M).1.Pairwise (fun x y => x.1 < y.1)) (hl : (g_X M t).2.1.length + (sv_seen (g_sdr M t n) t n).length ≤ a) (ha : a ≤ 4096) : sv_B (sv_take M t n) t a b (c + 4096) := by
  refine ⟨?_, by rw [sv_take_E hs]; exact h.2.1, ?_⟩
  · unfold sv_take
    rw [g_cls_len, g_sdr_X]
    have : (sv_drop n (g_X M t).2.1).length ≤ (g_X M t).2.1.length := List.length_filter_le _ _
    show (sv_drop n (g_X M t).2.1).length + _ ≤ a
    omega
  · unfold sv_take
    rw [g_cls_ser]
    have : g_ser (g_sdr M t n) = g_ser M := rfl
    have := h.2.2
    omega
theorem g_rk_see (M : s_M) (t c d : Nat) : g_see (g_rk M t c) t d = g_see M t d := by
  unfold g_see g_rk g_rdg
  show s_see d ((if t = t then _ else g_X M t) : s_X).2.1 (r_val d ((if t = t then _ else g_X M t) : s_X).1.2.2.1 (g_E M).2.1, false) = _
  rw [if_pos rfl]
theorem g_rk_len (M : s_M) (t c : Nat) : (g_X (g_rk M t c) t).2.2.length ≤ (g_X M t).2.2.length + 1 := by
  show ((if t = t then _ else g_X M t) : s_X).2.2.length ≤ _
  rw [if_pos rfl]
  show (s_rdk true _ _ c _).length ≤ _
  unfold s_rdk
  split
  · rw [List.length_append, List.length_singleton]; omega
  · omega
section MSW
variable {G : k_G} {l : Launch}
theorem c_kc (ok : k_ok G l) {b : Nat} {s : m_S} {h : k_H} {M : s_M} {t : Nat} (hM : m_M s M) (ht : t < 4) (B : sv_B M t 4095 11999 (2 ^ 30 - 2)) {k : Int32} {c : Nat} {v p ck cv : Int32} (hk : k = 0 ∨ k = 1 ∨ k = 2 ∨ k = 3 ∨ k = 4 ∨ k = 5 ∨ k = 6) (hc : c < 1331000000000) (e1 : m_ck (g_ser M + 1, k, c, c + 1, v, p) = ck) (e2 : m_cv (g_ser M + 1, k, c, c + 1, v, p) = cv) :
    k_ctv (tX12_keepsKey G l) [vR (some b), vI (nI t), vI ck, vJ (lN c), vI cv] (m_hp b s h) (m_pv b h (fun s1 => m_M s1 (g_kc M t k c v p) ∧ s1.1 52 = s.1 52)) := by
  obtain ⟨b1, b2, b3⟩ := B
  have K := c_keepsKey_M ok (h := h) (b := b) (y := (g_ser M + 1, k, c, c + 1, v, p)) hM ht (by omega) (by omega) ⟨hk, Nat.lt_succ_self _, by show c + 1 < 2 ^ 61; omega, Or.inl rfl, hc, by show g_ser M + 1 < 2 ^ 30; omega⟩ rfl rfl (fun _ => by have := m_ins_len c (g_E M).1; show (m_ins c (g_E M).1).length ≤ 12000; omega)
  rw [e1, e2] at K
  exact K
theorem c_rk (ok : k_ok G l) {b : Nat} {s : m_S} {h : k_H} {M : s_M} {t c : Nat} (hM : m_M s M) (ht : t < 4) (hser : g_ser M < 2 ^ 30) (hlen : (g_X M t).2.2.length < 2048) (hc : c < 2 ^ 60) :
    k_ctv (tX12_reads G l) [vR (some b), vI (nI t), vJ (lN c), vI 1] (m_hp b s h) (m_pv b h (fun s1 => m_seen s1 (g_see M t c) ∧ m_M s1 (g_rk M t c) ∧ s1.1 52 = s.1 52)) := by
  obtain ⟨h', T, s1, e, p1, p2, p3, p4⟩ := c_X12_reads ok (h := h) (b := b) (counts := true) hM.1.1 ht (hM.2.2.1 t ht) hM.2.1.2.2.2 hser hlen hc
  exact ⟨h', T, s1, e, p1, m_M_tx hM ht p2 p3 p4 (by simp) (by simp), p4.1 52 (by simp)⟩
theorem c_X12_goesOnFor (ok : k_ok G l) {b : Nat} {s : m_S} {h : k_H} {M : s_M} {t : Nat} {i n : Int32} (hi : s_na i) (hM : m_M s M) (ht : t < 4) (hser : g_ser M < 2 ^ 30) (hlen : (g_X M t).2.2.length < 2048) :
    k_cti (tX12_goesOnFor G l) [vR (some b), vI (nI t), vI i, vI n] (m_hp b s h) (m_p b h (fun s1 v => v = kB (sv_go M t i n) ∧ m_M s1 (g_rk M t (sv_co i)) ∧ s1.1 52 = s.1 52)) := by
  have hcl := s_cd_lt (sv_na (z := -6) (by decide)) hi (Or.inl rfl : s_na 10000)
  refine k_cti_of (eX12_goesOnFor ok.2 (mX12_goesOnFor_0 (m_stJ (c_X12_indexOf ok hi)) ?_))
  rintro _ _ ⟨hr, rfl⟩
  rw [hr]
  refine mX12_goesOnFor_6 (c_rk ok hM ht hser hlen (c := sv_co i) (by unfold sv_co; omega)) ?_
  rintro r2 ⟨⟨z1, z2, z3⟩, b1, b2⟩
  have fin : ∀ y : Int32, y = o_told (g_see M t (sv_co i)).1 → k_X (jX12_goesOnFor G l (m_hp b s h)) (m_hp b r2 h) 26 [(3, vI n)] [vI y] (q_i (m_p b h (fun s1 v => v = kB (sv_go M t i n) ∧ m_M s1 (g_rk M t (sv_co i)) ∧ s1.1 52 = s.1 52))) := by
    intro y hy
    refine mX12_goesOnFor_26 (m_stI (c_X12_goesFor ok)) ?_
    rintro _ _ ⟨hr, rfl⟩
    rw [hr]
    exact bX12_goesOnFor_30 (kB_bl _) ⟨_, rfl, r2, rfl, by rw [hy]; rfl, b1, b2⟩
  refine mX12_goesOnFor_10 (fun c1 => bX12_goesOnFor_24 (fin _ ?_)) (fun c1 => mX12_goesOnFor_17 (fin _ ?_))
  · rw [z1, kB_0] at c1
    cases ev : (g_see M t (sv_co i)).1 with
    | none => rfl
    | some w => rw [ev] at c1; cases c1
  · rw [z1, kB_n0] at c1
    rw [z2]
    cases ev : (g_see M t (sv_co i)).1 with
    | none => rw [ev] at c1; cases c1
    | some w => rfl
theorem c_X12_writes (ok : k_ok G l) {b : Nat} {s : m_S} {h : k_H} {M : s_M} {t : Nat} {n field : Int32} {saves : Bool} (hM : m_M s M) (ht : t < 4) (hn : s_na n) (hfield : saves = true → s_na field) (hold : ∀ v, (g_see M t (sv_re n)).1 = some v → s_na v)
    (B : sv_B M t 4090 11990 (2 ^ 29)) (hrd : (g_X M t).2.2.length + 4 ≤ 2048)
    (hlen : (sv_go M t 2 n && (g_see M t (sv_re n)).1.isSome) = true → (g_X (sv_p (sv_go M t 0 n) (sv_go M t 1 n) (g_see M t (sv_re n)).1.isSome saves t n (o_told (g_see M t (sv_re n)).1) field (sv_r4 M t n)) t).2.1.length + (sv_seen (g_sdr (sv_p (sv_go M t 0 n) (sv_go M t 1 n) (g_see M t (sv_re n)).1.isSome saves t n (o_told (g_see M t (sv_re n)).1) field (sv_r4 M t n)) t n) t n).length ≤ 4094) :
    k_cti (tX12_writes G l) [vR (some b), vI (nI t), vI n, vI (kB saves), vI field] (m_hp b s h) (m_p b h (fun s1 v => m_M s1 (sv_w M t n saves field).1 ∧ v = (sv_w M t n saves field).2 ∧ s1.1 52 = s.1 52)) := by
  have n0 : s_na 0 := sv_na (by decide)
  have n1 : s_na 1 := sv_na (by decide)
  have n2 : s_na 2 := sv_na (by decide)
  have hser : g_ser M < 2 ^ 30 := by have := B.2.2; omega
  refine k_cti_of (eX12_writes ok.2 (mX12_writes_0 (c_X12_goesOnFor ok n0 hM ht hser (by omega)) ?_))
  rintro r1 _ ⟨rfl, a1, a2⟩
  have L1 := g_rk_len M t (sv_co 0)
  have V1 := g_rk_see M t (sv_co 0)
  have B1 := sv_B_rk B (sv_co 0)
  refine mX12_writes_7 (c_X12_goesOnFor ok n1 a1 ht hser (by omega)) ?_
  rintro r2 _ ⟨rfl, b1, b2⟩
  have e1 : sv_go (g_rk M t (sv_co 0)) t 1 n = sv_go M t 1 n := by unfold sv_go; rw [V1]
  rw [e1]
  have L2 := g_rk_len (g_rk M t (sv_co 0)) t (sv_co 1)
  have V2 := g_rk_see (g_rk M t (sv_co 0)) t (sv_co 1)
  have B2 := sv_B_rk B1 (sv_co 1)
  refine mX12_writes_16 (c_X12_goesOnFor ok n2 b1 ht hser (by omega)) ?_
  rintro r3 _ ⟨rfl, c1, c2⟩
  have e2 : sv_go (g_rk (g_rk M t (sv_co 0)) t (sv_co 1)) t 2 n = sv_go M t 2 n := by unfold sv_go; rw [V2, V1]
  rw [e2]
  have L3 := g_rk_len (g_rk (g_rk M t (sv_co 0)) t (sv_co 1)) t (sv_co 2)
  have V3 := g_rk_see (g_rk (g_rk M t (sv_co 0)) t (sv_co 1)) t (sv_co 2)
  have B3 := sv_B_rk B2 (sv_co 2)
  have hre : sv_re n < 1331000000000 := s_cd_lt (sv_na (z := -1) (by decide)) hn (Or.inl rfl)
  refine mX12_writes_25 (m_stJ (c_X12_recordOf ok hn)) ?_
  rintro _ _ ⟨hr, rfl⟩
  rw [hr]
  refine mX12_writes_33 (c_rk ok c1 ht hser (by omega) (c := sv_re n) (by omega)) ?_
  rintro r4 ⟨⟨z1, z2, z3⟩, d1, d2⟩
  have B4 := sv_B_rk B3 (sv_re n)
  rw [V3, V2, V1] at z1 z2
  have h52 : r4.1 52 = s.1 52 := d2.trans (c2.trans (b2.trans a2))
  have d3 : m_M r4 (sv_r4 M t n) := d1
  have B5 : sv_B (sv_r4 M t n) t 4090 11990 (2 ^ 29) := B4
  have ew : sv_w M t n saves field = if saves = false ∧ (g_see M t (sv_re n)).1 = none then (sv_r4 M t n, -2147483648) else (sv_all M t n saves field, o_told (g_see M t (sv_re n)).1) := rfl
  have ea : sv_all M t n saves field = sv_f (sv_go M t 2 n) saves t n field (sv_q (sv_go M t 2 n && (g_see M t (sv_re n)).1.isSome) t n (sv_p (sv_go M t 0 n) (sv_go M t 1 n) (g_see M t (sv_re n)).1.isSome saves t n (o_told (g_see M t (sv_re n)).1) field (sv_r4 M t n))) := rfl
  rw [ea] at ew
  generalize sv_go M t 0 n = g0 at ew hlen ⊢
  generalize sv_go M t 1 n = g1 at ew hlen ⊢
  generalize sv_go M t 2 n = g2 at ew hlen ⊢
  generalize sv_r4 M t n = N at ew hlen d3 B5
  generalize (g_see M t (sv_re n)).1 = z at ew hlen z1 z2 hold
  rw [ew]
  have ez : z.isSome = true → z.getD 0 = o_told z := by cases z with
    | none => exact fun z => absurd z (by decide)
    | some w => exact fun _ => rfl
  have eold : z.isSome = true → s_na (o_told z) := by cases z with
    | none => exact fun z => absurd z (by decide)
    | some w => exact fun _ => hold w rfl
  have ez2 : z.isSome = false → z = none := by cases z with
    | none => exact fun _ => rfl
    | some w => exact fun z => nomatch z
  clear hold ew ea d1 B4 B3 B2 B1 V1 V2 V3 L1 L2 L3 e1 e2
  have ifs : ∀ (y : Bool) (x : Int32), (if y = true then (0 : Int32) else x) = if kB y = 0 then x else 0 := by intro y x; cases y <;> rfl
  have main : ¬ (saves = false ∧ z = none) → k_X (jX12_writes G l (m_hp b s h)) (m_hp b r4 h) 61 [(0, vR (some b)), (1, vI (nI t)), (2, vI n), (3, vI (kB saves)), (4, vI field), (5, vI (kB g0)), (6, vI (kB g1)), (7, vI (kB g2)), (8, vI (r4.1 33)), (9, vI (r4.1 34))] [] (q_i (m_p b h (fun s1 v => m_M s1 (if saves = false ∧ z = none then (N, (-2147483648 : Int32)) else (sv_f g2 saves t n field (sv_q (g2 && z.isSome) t n (sv_p g0 g1 z.isSome saves t n (o_told z) field N)), o_told z)).1 ∧ v = (if saves = false ∧ z = none then (N, (-2147483648 : Int32)) else (sv_f g2 saves t n field (sv_q (g2 && z.isSome) t n (sv_p g0 g1 z.isSome saves t n (o_told z) field N)), o_told z)).2 ∧ s1.1 52 = s.1 52))) := by
    intro hc
    rw [if_neg hc, z1]
    have e34 : z.isSome = true → r4.1 34 = o_told z := fun e => by rw [z2, ez e]
    generalize r4.1 34 = v9 at e34
    have hs1 : kB saves = 0 ↔ saves = false := kB_0
    -- the end
    have st6 : ∀ (r : m_S) (N' : s_M), m_M r N' → r.1 52 = s.1 52 → sv_B N' t 4095 11998 (2 ^ 30 - 3) → g_kc N' t (if saves = true then 0 else 1) (sv_re n) (if saves = true then field else -2147483648) 0 = sv_f g2 saves t n field (sv_q (g2 && z.isSome) t n (sv_p g0 g1 z.isSome saves t n (o_told z) field N)) →
        k_X (jX12_writes G l (m_hp b s h)) (m_hp b r h) 204 [(0, vR (some b)), (1, vI (nI t)), (2, vI n), (3, vI (kB saves)), (4, vI field), (8, vI (kB z.isSome)), (9, vI v9)] [] (q_i (m_p b h (fun s1 v => m_M s1 (sv_f g2 saves t n field (sv_q (g2 && z.isSome) t n (sv_p g0 g1 z.isSome saves t n (o_told z) field N))) ∧ v = o_told z ∧ s1.1 52 = s.1 52))) := by
      intro r N' hN h52' BN he
      rw [← he]
      have ret : ∀ r2 : m_S, m_M r2 (g_kc N' t (if saves = true then 0 else 1) (sv_re n) (if saves = true then field else -2147483648) 0) → r2.1 52 = s.1 52 → k_X (jX12_writes G l (m_hp b s h)) (m_hp b r2 h) 232 [(8, vI (kB z.isSome)), (9, vI v9)] [] (q_i (m_p b h (fun s1 v => m_M s1 (g_kc N' t (if saves = true then 0 else 1) (sv_re n) (if saves = true then field else -2147483648) 0) ∧ v = o_told z ∧ s1.1 52 = s.1 52))) := by
        intro r2 w1 w2
        refine bX12_writes_232 (fun c3 => bX12_writes_242 (bX12_writes_244 ⟨_, rfl, r2, rfl, w1, ?_, w2⟩)) (fun c3 => bX12_writes_237 (bX12_writes_244 ⟨_, rfl, r2, rfl, w1, ?_, w2⟩))
        · rw [kB_0] at c3; rw [ez2 c3]; rfl
        · rw [kB_n0] at c3; exact e34 c3
      refine bX12_writes_204 (fun c3 => bX12_writes_214 (mX12_writes_215 (m_stJ (c_X12_recordOf ok hn)) ?_)) (fun c3 => bX12_writes_210 (mX12_writes_215 (m_stJ (c_X12_recordOf ok hn)) ?_))
      · rintro _ _ ⟨hr, rfl⟩
        rw [hr]
        rw [kB_0] at c3
        refine bX12_writes_219 (fun _ => bX12_writes_228 (mX12_writes_229 (c_kc ok hN ht ⟨BN.1, by have := BN.2.1; omega, by have := BN.2.2; omega⟩ (k := if saves = true then 0 else 1) (v := if saves = true then field else -2147483648) (p := 0) (c := sv_re n) (by rw [c3]; simp) hre (by rw [c3]; exact m_ck_kc _ (fun w => absurd w.1 (by decide))) (by rw [c3]; rfl)) ?_)) (fun z => absurd (by rw [c3]; rfl) z)
        rintro r2 ⟨w1, w2⟩
        exact ret r2 w1 (w2.trans h52')
      · rintro _ _ ⟨hr, rfl⟩
        rw [hr]
        rw [kB_n0] at c3
        refine bX12_writes_219 (fun z => absurd z (by rw [c3]; decide)) (fun _ => bX12_writes_223 (mX12_writes_229 (c_kc ok hN ht ⟨BN.1, by have := BN.2.1; omega, by have := BN.2.2; omega⟩ (k := if saves = true then 0 else 1) (v := if saves = true then field else -2147483648) (p := 0) (c := sv_re n) (by rw [c3]; simp) hre (by rw [c3]; exact m_ck_kc _ (fun w => absurd w.1 (by decide))) (by rw [c3]; rfl)) ?_))
        rintro r2 ⟨w1, w2⟩
        exact ret r2 w1 (w2.trans h52')
    -- the stamped one
    have st5 : ∀ (r : m_S) (N' : s_M), m_M r N' → r.1 52 = s.1 52 → sv_B N' t 4094 11997 (2 ^ 30 - 4) → sv_f g2 saves t n field N' = sv_f g2 saves t n field (sv_q (g2 && z.isSome) t n (sv_p g0 g1 z.isSome saves t n (o_told z) field N)) →
        k_X (jX12_writes G l (m_hp b s h)) (m_hp b r h) 179 [(0, vR (some b)), (1, vI (nI t)), (2, vI n), (3, vI (kB saves)), (4, vI field), (7, vI (kB g2)), (8, vI (kB z.isSome)), (9, vI v9)] [] (q_i (m_p b h (fun s1 v => m_M s1 (sv_f g2 saves t n field (sv_q (g2 && z.isSome) t n (sv_p g0 g1 z.isSome saves t n (o_told z) field N))) ∧ v = o_told z ∧ s1.1 52 = s.1 52))) := by
      intro r N' hN h52' BN he
      have no : (g2 && saves) = false → k_X (jX12_writes G l (m_hp b s h)) (m_hp b r h) 204 [(0, vR (some b)), (1, vI (nI t)), (2, vI n), (3, vI (kB saves)), (4, vI field), (8, vI (kB z.isSome)), (9, vI v9)] [] (q_i (m_p b h (fun s1 v => m_M s1 (sv_f g2 saves t n field (sv_q (g2 && z.isSome) t n (sv_p g0 g1 z.isSome saves t n (o_told z) field N))) ∧ v = o_told z ∧ s1.1 52 = s.1 52))) := fun c => st6 r N' hN h52' ⟨by have := BN.1; omega, by have := BN.2.1; omega, by have := BN.2.2; omega⟩ (by rw [← he]; unfold sv_f; rw [sv_1_f c])
      refine bX12_writes_179 (fun c3 => no (by rw [kB_0] at c3; rw [c3]; rfl)) (fun c3 => bX12_writes_184 (fun c4 => no (by rw [kB_0] at c4; rw [c4, Bool.and_false])) (fun c4 => mX12_writes_188 (m_stJ (c_X12_codeOf ok s_na_m4 n0 hn)) ?_))
      rintro _ _ ⟨hr, rfl⟩
      rw [hr]
      rw [kB_n0] at c3 c4
      have hdiv : s_cd (-4) 0 n / 121000000 = 996 := by rw [s_cd_div n0 hn]; decide
      refine mX12_writes_199 (c_kc ok hN ht ⟨by have := BN.1; omega, by have := BN.2.1; omega, by have := BN.2.2; omega⟩ (k := 6) (v := field) (p := 1) (c := s_cd (-4) 0 n) (by simp) (s_cd_lt s_na_m4 n0 hn) (m_ck_k8 _ hdiv) rfl) ?_
      rintro r2 ⟨w1, w2⟩
      refine st6 r2 _ w1 (w2.trans h52') (sv_B_kc BN _ _ _ _) ?_
      rw [← he]
      unfold sv_f
      rw [sv_1_t (show (g2 && saves) = true by rw [c3, c4]; rfl)]
    -- stamps are taken away
    have st4 : ∀ (r : m_S), m_M r (sv_p g0 g1 z.isSome saves t n (o_told z) field N) → r.1 52 = s.1 52 → sv_B (sv_p g0 g1 z.isSome saves t n (o_told z) field N) t 4094 11994 (2 ^ 29 + 4) →
        k_X (jX12_writes G l (m_hp b s h)) (m_hp b r h) 163 [(0, vR (some b)), (1, vI (nI t)), (2, vI n), (3, vI (kB saves)), (4, vI field), (7, vI (kB g2)), (8, vI (kB z.isSome)), (9, vI v9)] [] (q_i (m_p b h (fun s1 v => m_M s1 (sv_f g2 saves t n field (sv_q (g2 && z.isSome) t n (sv_p g0 g1 z.isSome saves t n (o_told z) field N))) ∧ v = o_told z ∧ s1.1 52 = s.1 52))) := by
      intro r hN h52' BN
      generalize sv_p g0 g1 z.isSome saves t n (o_told z) field N = N' at hN BN hlen st5 ⊢
      have no : (g2 && z.isSome) = false → k_X (jX12_writes G l (m_hp b s h)) (m_hp b r h) 179 [(0, vR (some b)), (1, vI (nI t)), (2, vI n), (3, vI (kB saves)), (4, vI field), (7, vI (kB g2)), (8, vI (kB z.isSome)), (9, vI v9)] [] (q_i (m_p b h (fun s1 v => m_M s1 (sv_f g2 saves t n field (sv_q (g2 && z.isSome) t n N')) ∧ v = o_told z ∧ s1.1 52 = s.1 52))) := fun c => st5 r N' hN h52' ⟨BN.1, by have := BN.2.1; omega, by have := BN.2.2; omega⟩ (by unfold sv_q; rw [if_neg (by rw [c]; decide)])
      refine bX12_writes_163 (fun c3 => no (by rw [kB_0] at c3; rw [c3]; rfl)) (fun c3 => bX12_writes_168 (fun c4 => no (by rw [kB_0] at c4; rw [c4, Bool.and_false])) (fun c4 => ?_))
      rw [kB_n0] at c3 c4
      have cc : (g2 && z.isSome) = true := by rw [c3, c4]; rfl
      have hl := hlen cc
      refine mX12_writes_173 (c_X12_takesStamps ok hN ht (by have := BN.2.2; omega) (by omega)) ?_
      rintro r2 ⟨w1, w2⟩
      have BT := sv_B_take (a := 4094) BN hN.1.1.1.2.2.2 hl (by omega)
      refine st5 r2 _ w1 (w2.trans h52') ⟨BT.1, by have := BT.2.1; omega, by have := BT.2.2; omega⟩ ?_
      unfold sv_q
      rw [if_pos cc]
    have nm3 : s_na (-3) := sv_na (by decide)
    have nm2 : s_na (-2) := sv_na (by decide)
    have ep : sv_p g0 g1 z.isSome saves t n (o_told z) field N = sv_1 (g1 && saves) t 2 (s_cd (-3) field 10000) 1 0 (sv_1 (g1 && z.isSome) t 2 (s_cd (-3) (o_told z) 10000) (-1) 0 (sv_1 (g0 && saves) t 0 (s_cd (-2) field n) 0 0 (sv_1 (g0 && z.isSome) t 1 (s_cd (-2) (o_told z) n) 0 0 N))) := rfl
    have st3 : ∀ (r : m_S) (N' : s_M), m_M r N' → r.1 52 = s.1 52 → sv_B N' t 4093 11993 (2 ^ 29 + 3) → sv_1 (g1 && saves) t 2 (s_cd (-3) field 10000) 1 0 N' = sv_p g0 g1 z.isSome saves t n (o_told z) field N →
        k_X (jX12_writes G l (m_hp b s h)) (m_hp b r h) 137 [(0, vR (some b)), (1, vI (nI t)), (2, vI n), (3, vI (kB saves)), (4, vI field), (6, vI (kB g1)), (7, vI (kB g2)), (8, vI (kB z.isSome)), (9, vI v9)] [] (q_i (m_p b h (fun s1 v => m_M s1 (sv_f g2 saves t n field (sv_q (g2 && z.isSome) t n (sv_p g0 g1 z.isSome saves t n (o_told z) field N))) ∧ v = o_told z ∧ s1.1 52 = s.1 52))) := by
      intro r N' hN h52' BN he
      have no : (g1 && saves) = false → k_X (jX12_writes G l (m_hp b s h)) (m_hp b r h) 163 [(0, vR (some b)), (1, vI (nI t)), (2, vI n), (3, vI (kB saves)), (4, vI field), (7, vI (kB g2)), (8, vI (kB z.isSome)), (9, vI v9)] [] (q_i (m_p b h (fun s1 v => m_M s1 (sv_f g2 saves t n field (sv_q (g2 && z.isSome) t n (sv_p g0 g1 z.isSome saves t n (o_told z) field N))) ∧ v = o_told z ∧ s1.1 52 = s.1 52))) := fun c => st4 r (by rw [← he, sv_1_f (z := g1 && saves) c]; exact hN) (h52') (by rw [← he, sv_1_f (z := g1 && saves) c]; exact ⟨by have := BN.1; omega, by have := BN.2.1; omega, by have := BN.2.2; omega⟩)
      refine bX12_writes_137 (fun c3 => no (by rw [kB_0] at c3; rw [c3]; rfl)) (fun c3 => bX12_writes_142 (fun c4 => no (by rw [kB_0] at c4; rw [c4, Bool.and_false])) (fun c4 => ?_))
      rw [kB_n0] at c3 c4
      refine mX12_writes_146 (m_stJ (c_X12_codeOf ok nm3 (hfield c4) (Or.inl rfl))) ?_
      rintro _ _ ⟨hr, rfl⟩
      rw [hr]
      refine mX12_writes_159 (c_kc ok hN ht ⟨by have := BN.1; omega, by have := BN.2.1; omega, by have := BN.2.2; omega⟩ (k := 2) (v := 1) (p := 0) (c := s_cd (-3) field 10000) (by simp) (s_cd_lt nm3 (hfield c4) (Or.inl rfl)) (m_ck_kc _ (fun w => absurd w.1 (by decide))) rfl) ?_
      rintro r2 ⟨w1, w2⟩
      have BK := sv_B_kc BN 2 (s_cd (-3) field 10000) 1 0
      exact st4 r2 (by rw [← he, sv_1_t (z := g1 && saves) (by rw [c3, c4]; rfl)]; exact w1) (w2.trans h52') (by rw [← he, sv_1_t (z := g1 && saves) (by rw [c3, c4]; rfl)]; exact BK)
    have st2 : ∀ (r : m_S) (N' : s_M), m_M r N' → r.1 52 = s.1 52 → sv_B N' t 4092 11992 (2 ^ 29 + 2) → sv_1 (g1 && saves) t 2 (s_cd (-3) field 10000) 1 0 (sv_1 (g1 && z.isSome) t 2 (s_cd (-3) (o_told z) 10000) (-1) 0 N') = sv_p g0 g1 z.isSome saves t n (o_told z) field N →
        k_X (jX12_writes G l (m_hp b s h)) (m_hp b r h) 110 [(0, vR (some b)), (1, vI (nI t)), (2, vI n), (3, vI (kB saves)), (4, vI field), (6, vI (kB g1)), (7, vI (kB g2)), (8, vI (kB z.isSome)), (9, vI v9)] [] (q_i (m_p b h (fun s1 v => m_M s1 (sv_f g2 saves t n field (sv_q (g2 && z.isSome) t n (sv_p g0 g1 z.isSome saves t n (o_told z) field N))) ∧ v = o_told z ∧ s1.1 52 = s.1 52))) := by
      intro r N' hN h52' BN he
      have no : (g1 && z.isSome) = false → k_X (jX12_writes G l (m_hp b s h)) (m_hp b r h) 137 [(0, vR (some b)), (1, vI (nI t)), (2, vI n), (3, vI (kB saves)), (4, vI field), (6, vI (kB g1)), (7, vI (kB g2)), (8, vI (kB z.isSome)), (9, vI v9)] [] (q_i (m_p b h (fun s1 v => m_M s1 (sv_f g2 saves t n field (sv_q (g2 && z.isSome) t n (sv_p g0 g1 z.isSome saves t n (o_told z) field N))) ∧ v = o_told z ∧ s1.1 52 = s.1 52))) := fun c => st3 r (N') (hN) (h52') (⟨by have := BN.1; omega, by have := BN.2.1; omega, by have := BN.2.2; omega⟩) (by rw [← he, sv_1_f (z := g1 && z.isSome) c])
      refine bX12_writes_110 (fun c3 => no (by rw [kB_0] at c3; rw [c3]; rfl)) (fun c3 => bX12_writes_115 (fun c4 => no (by rw [kB_0] at c4; rw [c4, Bool.and_false])) (fun c4 => ?_))
      rw [kB_n0] at c3 c4
      refine mX12_writes_120 (m_stJ (c_X12_codeOf ok nm3 (show s_na v9 by rw [e34 c4]; exact eold c4) (Or.inl rfl))) ?_
      rintro _ _ ⟨hr, rfl⟩
      rw [hr]
      refine mX12_writes_133 (by rw [e34 c4]; exact c_kc ok hN ht ⟨by have := BN.1; omega, by have := BN.2.1; omega, by have := BN.2.2; omega⟩ (k := 2) (v := (-1)) (p := 0) (c := s_cd (-3) (o_told z) 10000) (by simp) (s_cd_lt nm3 (eold c4) (Or.inl rfl)) (m_ck_kc _ (fun w => absurd w.1 (by decide))) rfl) ?_
      rintro r2 ⟨w1, w2⟩
      have BK := sv_B_kc BN 2 (s_cd (-3) (o_told z) 10000) (-1) 0
      exact st3 r2 (_) (w1) (w2.trans h52') (BK) (by rw [← he, sv_1_t (z := g1 && z.isSome) (by rw [c3, c4]; rfl)])
    have st1 : ∀ (r : m_S) (N' : s_M), m_M r N' → r.1 52 = s.1 52 → sv_B N' t 4091 11991 (2 ^ 29 + 1) → sv_1 (g1 && saves) t 2 (s_cd (-3) field 10000) 1 0 (sv_1 (g1 && z.isSome) t 2 (s_cd (-3) (o_told z) 10000) (-1) 0 (sv_1 (g0 && saves) t 0 (s_cd (-2) field n) 0 0 N')) = sv_p g0 g1 z.isSome saves t n (o_told z) field N →
        k_X (jX12_writes G l (m_hp b s h)) (m_hp b r h) 86 [(0, vR (some b)), (1, vI (nI t)), (2, vI n), (3, vI (kB saves)), (4, vI field), (5, vI (kB g0)), (6, vI (kB g1)), (7, vI (kB g2)), (8, vI (kB z.isSome)), (9, vI v9)] [] (q_i (m_p b h (fun s1 v => m_M s1 (sv_f g2 saves t n field (sv_q (g2 && z.isSome) t n (sv_p g0 g1 z.isSome saves t n (o_told z) field N))) ∧ v = o_told z ∧ s1.1 52 = s.1 52))) := by
      intro r N' hN h52' BN he
      have no : (g0 && saves) = false → k_X (jX12_writes G l (m_hp b s h)) (m_hp b r h) 110 [(0, vR (some b)), (1, vI (nI t)), (2, vI n), (3, vI (kB saves)), (4, vI field), (6, vI (kB g1)), (7, vI (kB g2)), (8, vI (kB z.isSome)), (9, vI v9)] [] (q_i (m_p b h (fun s1 v => m_M s1 (sv_f g2 saves t n field (sv_q (g2 && z.isSome) t n (sv_p g0 g1 z.isSome saves t n (o_told z) field N))) ∧ v = o_told z ∧ s1.1 52 = s.1 52))) := fun c => st2 r (N') (hN) (h52') (⟨by have := BN.1; omega, by have := BN.2.1; omega, by have := BN.2.2; omega⟩) (by rw [← he, sv_1_f (z := g0 && saves) c])
      refine bX12_writes_86 (fun c3 => no (by rw [kB_0] at c3; rw [c3]; rfl)) (fun c3 => bX12_writes_91 (fun c4 => no (by rw [kB_0] at c4; rw [c4, Bool.and_false])) (fun c4 => ?_))
      rw [kB_n0] at c3 c4
      refine mX12_writes_95 (m_stJ (c_X12_codeOf ok nm2 (hfield c4) hn)) ?_
      rintro _ _ ⟨hr, rfl⟩
      rw [hr]
      refine mX12_writes_106 (c_kc ok hN ht ⟨by have := BN.1; omega, by have := BN.2.1; omega, by have := BN.2.2; omega⟩ (k := 0) (v := 0) (p := 0) (c := s_cd (-2) field n) (by simp) (s_cd_lt nm2 (hfield c4) hn) (m_ck_kc _ (fun w => absurd w.1 (by decide))) rfl) ?_
      rintro r2 ⟨w1, w2⟩
      have BK := sv_B_kc BN 0 (s_cd (-2) field n) 0 0
      exact st2 r2 (_) (w1) (w2.trans h52') (BK) (by rw [← he, sv_1_t (z := g0 && saves) (by rw [c3, c4]; rfl)])
    have st0 : ∀ (r : m_S) (N' : s_M), m_M r N' → r.1 52 = s.1 52 → sv_B N' t 4090 11990 (2 ^ 29) → sv_1 (g1 && saves) t 2 (s_cd (-3) field 10000) 1 0 (sv_1 (g1 && z.isSome) t 2 (s_cd (-3) (o_told z) 10000) (-1) 0 (sv_1 (g0 && saves) t 0 (s_cd (-2) field n) 0 0 (sv_1 (g0 && z.isSome) t 1 (s_cd (-2) (o_told z) n) 0 0 N'))) = sv_p g0 g1 z.isSome saves t n (o_told z) field N →
        k_X (jX12_writes G l (m_hp b s h)) (m_hp b r h) 61 [(0, vR (some b)), (1, vI (nI t)), (2, vI n), (3, vI (kB saves)), (4, vI field), (5, vI (kB g0)), (6, vI (kB g1)), (7, vI (kB g2)), (8, vI (kB z.isSome)), (9, vI v9)] [] (q_i (m_p b h (fun s1 v => m_M s1 (sv_f g2 saves t n field (sv_q (g2 && z.isSome) t n (sv_p g0 g1 z.isSome saves t n (o_told z) field N))) ∧ v = o_told z ∧ s1.1 52 = s.1 52))) := by
      intro r N' hN h52' BN he
      have no : (g0 && z.isSome) = false → k_X (jX12_writes G l (m_hp b s h)) (m_hp b r h) 86 [(0, vR (some b)), (1, vI (nI t)), (2, vI n), (3, vI (kB saves)), (4, vI field), (5, vI (kB g0)), (6, vI (kB g1)), (7, vI (kB g2)), (8, vI (kB z.isSome)), (9, vI v9)] [] (q_i (m_p b h (fun s1 v => m_M s1 (sv_f g2 saves t n field (sv_q (g2 && z.isSome) t n (sv_p g0 g1 z.isSome saves t n (o_told z) field N))) ∧ v = o_told z ∧ s1.1 52 = s.1 52))) := fun c => st1 r (N') (hN) (h52') (⟨by have := BN.1; omega, by have := BN.2.1; omega, by have := BN.2.2; omega⟩) (by rw [← he, sv_1_f (z := g0 && z.isSome) c])
      refine bX12_writes_61 (fun c3 => no (by rw [kB_0] at c3; rw [c3]; rfl)) (fun c3 => bX12_writes_66 (fun c4 => no (by rw [kB_0] at c4; rw [c4, Bool.and_false])) (fun c4 => ?_))
      rw [kB_n0] at c3 c4
      refine mX12_writes_71 (m_stJ (c_X12_codeOf ok nm2 (show s_na v9 by rw [e34 c4]; exact eold c4) hn)) ?_
      rintro _ _ ⟨hr, rfl⟩
      rw [hr]
      refine mX12_writes_82 (by rw [e34 c4]; exact c_kc ok hN ht ⟨by have := BN.1; omega, by have := BN.2.1; omega, by have := BN.2.2; omega⟩ (k := 1) (v := 0) (p := 0) (c := s_cd (-2) (o_told z) n) (by simp) (s_cd_lt nm2 (eold c4) hn) (m_ck_kc _ (fun w => absurd w.1 (by decide))) rfl) ?_
      rintro r2 ⟨w1, w2⟩
      have BK := sv_B_kc BN 1 (s_cd (-2) (o_told z) n) 0 0
      exact st1 r2 (_) (w1) (w2.trans h52') (BK) (by rw [← he, sv_1_t (z := g0 && z.isSome) (by rw [c3, c4]; rfl)])
    exact st0 r4 N d3 h52 B5 ep.symm
  refine mX12_writes_37 (fun c3 => main (fun y => c3 (by rw [y.1]; rfl))) (fun c3 => ?_)
  rw [kB_0] at c3
  refine bX12_writes_53 (fun c4 => main (fun y => c4 (by rw [z1, y.2]; rfl))) (fun c4 => ?_)
  rw [z1, kB_0] at c4
  rw [if_pos ⟨c3, ez2 c4⟩]
  exact bX12_writes_58 ⟨_, rfl, r4, rfl, d3, rfl, h52⟩
theorem c_X12_isAnyStamped (ok : k_ok G l) {b : Nat} {s : m_S} {h : k_H} {M : s_M} {t : Nat} {n : Int32} (hM : m_M s M) (ht : t < 4) (hn : s_na n) :
    k_cti (tX12_isAnyStamped G l) [vR (some b), vI (nI t), vI n] (m_hp b s h) (m_p b h (fun s1 v => v = kB (sv_st M t n) ∧ m_fr [33, 34, 35] [] s s1)) := by
  refine k_cti_of (eX12_isAnyStamped ok.2 (bX12_isAnyStamped_0 ?_))
  have hra : (g_X M t).1.2.2.1 < 2 ^ 31 := by have := (hM.2.2.1 t ht).2.1.1; omega
  have hre : sv_re n < 1331000000000 := s_cd_lt (sv_na (z := -1) (by decide)) hn (Or.inl rfl)
  -- one reading
  have step : ∀ (r : m_S) (u : Bool) (k c : Nat), k < 4 → c < 1331000000000 → m_fr [33, 34, 35] [] s r → (∀ r2 : m_S, m_fr [33, 34, 35] [] s r2 → k_X (jX12_isAnyStamped G l (m_hp b s h)) (m_hp b r2 h) 5 [(0, vR (some b)), (1, vI (nI t)), (2, vI n), (3, vI (kB (u || (g_see M t c).2))), (4, vI (nI (k + 1)))] [] (q_i (m_p b h (fun s1 v => v = kB (sv_st M t n) ∧ m_fr [33, 34, 35] [] s s1)))) →
      k_X (jX12_isAnyStamped G l (m_hp b s h)) (m_hp b r h) 31 [(0, vR (some b)), (1, vI (nI t)), (2, vI n), (3, vI (kB u)), (4, vI (nI k))] [vJ (lN c), vI (nI t), vR (some b)] (q_i (m_p b h (fun s1 v => v = kB (sv_st M t n) ∧ m_fr [33, 34, 35] [] s s1))) := by
    intro r u k c hk hc hf K
    have hr := m_M_fr hM hf (by simp) (by simp)
    have hx := hr.2.2.1 t ht
    refine mX12_isAnyStamped_31 (c_X12_sees ok hr.1.1 ht hx.2.2.1 hx.1.2.2.1 hra (by omega)) ?_
    rintro r2 ⟨⟨z1, z2, z3⟩, hf2⟩
    have K2 := K r2 (m_fr_trans hf hf2)
    have ez : s_see c (g_X M t).2.1 (r_val c (g_X M t).1.2.2.1 (g_E M).2.1, false) = g_see M t c := rfl
    rw [ez] at z3
    cases u with
    | true =>
      refine bX12_isAnyStamped_34 (fun _ => bX12_isAnyStamped_45 (bX12_isAnyStamped_50 ?_)) (fun z => absurd z (by decide))
      rw [nI_1]
      exact K2
    | false =>
      refine bX12_isAnyStamped_34 (fun z => absurd rfl z) (fun _ => mX12_isAnyStamped_38 (fun c1 => bX12_isAnyStamped_49 (bX12_isAnyStamped_50 ?_)) (fun c1 => bX12_isAnyStamped_45 (bX12_isAnyStamped_50 ?_)))
      · rw [z3, kB_0] at c1
        rw [c1] at K2
        rw [nI_1]
        exact K2
      · rw [z3, kB_n0] at c1
        rw [c1] at K2
        rw [nI_1]
        exact K2
  have idx : ∀ (r : m_S) (u : Bool) (k : Nat), k < 3 → m_fr [33, 34, 35] [] s r → (∀ r2 : m_S, m_fr [33, 34, 35] [] s r2 → k_X (jX12_isAnyStamped G l (m_hp b s h)) (m_hp b r2 h) 5 [(0, vR (some b)), (1, vI (nI t)), (2, vI n), (3, vI (kB (u || (g_see M t (sv_co (nI k))).2))), (4, vI (nI (k + 1)))] [] (q_i (m_p b h (fun s1 v => v = kB (sv_st M t n) ∧ m_fr [33, 34, 35] [] s s1)))) →
      k_X (jX12_isAnyStamped G l (m_hp b s h)) (m_hp b r h) 5 [(0, vR (some b)), (1, vI (nI t)), (2, vI n), (3, vI (kB u)), (4, vI (nI k))] [] (q_i (m_p b h (fun s1 v => v = kB (sv_st M t n) ∧ m_fr [33, 34, 35] [] s s1))) := by
    intro r u k hk hf K
    have nk : s_na (nI k) := e_n_na (by omega)
    refine bX12_isAnyStamped_5 (fun z => absurd z (nI_ge (b := 4) (by omega) (by omega))) (fun _ => bX12_isAnyStamped_11 (fun z => absurd z (nI_ge (b := 3) (by omega) (by omega))) (fun _ => mX12_isAnyStamped_19 (m_stJ (c_X12_indexOf ok nk)) ?_))
    rintro _ _ ⟨hr, rfl⟩
    rw [hr]
    exact bX12_isAnyStamped_24 (step r u k (sv_co (nI k)) (by omega) (s_cd_lt (sv_na (z := -6) (by decide)) nk (Or.inl rfl)) hf K)
  refine idx s false 0 (by decide) (m_fr_refl _ _ _) (fun r1 f1 => idx r1 _ 1 (by decide) f1 (fun r2 f2 => idx r2 _ 2 (by decide) f2 (fun r3 f3 => ?_)))
  refine bX12_isAnyStamped_5 (fun z => absurd z (by decide)) (fun _ => bX12_isAnyStamped_11 (fun _ => mX12_isAnyStamped_27 (m_stJ (c_X12_recordOf ok hn)) ?_) (fun z => absurd (by decide) z))
  rintro _ _ ⟨hr, rfl⟩
  rw [hr]
  refine step r3 _ 3 (sv_re n) (by decide) hre f3 (fun r4 f4 => bX12_isAnyStamped_5 (fun _ => bX12_isAnyStamped_57 (kB_bl _) ⟨_, rfl, r4, rfl, ?_, f4⟩) (fun z => absurd (by decide) z))
  rfl
end MSW
