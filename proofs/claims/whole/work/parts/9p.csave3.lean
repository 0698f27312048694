/-! THE CLASS'S save AND erase -/
theorem ok_1 {M : s_M} {t c : Nat} {k v p : Int32} {z : Bool} (h : sv_ok M t) (hk : k = 6 ∨ k = 0 ∨ k = 1 ∨ k = 2) : sv_ok (sv_1 z t k c v p M) t := by
  cases z with
  | true => rw [sv_1_t rfl]; exact ok_kc h hk
  | false => rw [sv_1_f rfl]; exact h
theorem ok_sdr {M : s_M} {t : Nat} {n : Int32} (h : sv_ok M t) : sv_ok (g_sdr M t n) t := by
  obtain ⟨h1, h2, h3, h4, h5, h6⟩ := h
  have hX := g_sdr_X M t n
  refine ⟨by rw [hX]; exact h1, by rw [hX]; exact h2, fun u hu y hy => ?_, h4, h5, fun y hy => ?_⟩
  · by_cases e : u = t
    · subst e
      rw [hX] at hy
      exact h3 u hu y (List.mem_filter.mp hy).1
    · have hXu : g_X (g_sdr M t n) u = g_X M u := by
        show (if u = t then _ else g_X M u) = _
        rw [if_neg e]
      rw [hXu] at hy
      exact h3 u hu y hy
  · rw [hX] at hy
    exact h6 y (List.mem_filter.mp hy).1
theorem ok_cls {t : Nat} : ∀ (X : List k_K2) (M : s_M), sv_ok M t → sv_ok (g_cls t X M) t := by
  intro X
  induction X with
  | nil => exact fun _ h => h
  | cons x X ih => exact fun M h => ih _ (ok_kc h (Or.inr (Or.inr (Or.inl rfl))))
theorem ok_q {M : s_M} {t : Nat} {n : Int32} {z : Bool} (h : sv_ok M t) : sv_ok (sv_q z t n M) t := by
  cases z with
  | true => exact ok_cls _ _ (ok_sdr h)
  | false => exact h
def c_n6 (M : s_M) (t : Nat) : Nat := (g_X M t).2.1.countP (fun x => decide (x.2.1 = 6))
theorem c_n6_1 {M : s_M} {t c : Nat} {k v p : Int32} {z : Bool} (hk : ¬ k = 6) : c_n6 (sv_1 z t k c v p M) t = c_n6 M t := by
  cases z with
  | true =>
    rw [sv_1_t rfl]
    unfold c_n6
    rw [g_kc_X, List.countP_append]
    have e : ∀ y : k_CH, y.2.1 = k → List.countP (fun x : k_CH => decide (x.2.1 = 6)) [y] = 0 := fun y hy => by
      rw [List.countP_eq_zero]
      intro x hx
      rw [List.mem_singleton.mp hx, hy]
      simp [hk]
    rw [e _ rfl, Nat.add_zero]
  | false => rw [sv_1_f rfl]
theorem c_n6_rk (M : s_M) (t c : Nat) : c_n6 (g_rk M t c) t = c_n6 M t := by
  unfold c_n6
  have hX : g_X (g_rk M t c) t = ((g_X M t).1, (g_X M t).2.1, s_rdk true (g_X M t).2.1 (g_X M t).2.2 c (g_ser M)) := by
    show (if t = t then _ else _) = _
    rw [if_pos rfl]
  rw [hX]
theorem in99_s {n : Int32} (h : s_inB n 0 99 = true) : ¬ n < 0 ∧ ¬ 99 < n := by
  unfold s_inB at h
  simp only [Bool.and_eq_true, decide_eq_true_eq] at h
  exact h
theorem na_ne {x : Int32} (h : s_na x) : ¬ x = -2147483648 := fun z => by
  rw [z] at h
  rcases h with h | h
  · exact absurd h (by decide)
  · exact absurd h (by unfold s_nm; decide)
section CS3
variable {G : k_G} {l : Launch}
theorem C_writeRecord (ok : k_ok G l) {a t N w sl : Nat} {B : Nat × Nat} {h : k_H} {M : s_M} {n field : Int32} {saves : Bool} (W : c_W a B h M N w) (ht : t < 4) (hok : sv_ok M t) (hn : s_inB n 0 99 = true) (hfield : saves = true → s_na field) (hold : ∀ v, (g_see M t (sv_re n)).1 = some v → s_na v)
    (SB : sv_B M t 4090 11990 (2 ^ 29)) (hrd : (g_X M t).2.2.length + 4 ≤ 2048) (hw : w ≤ 8000) (h12 : (g_X M t).2.1.length ≤ 12)
    (hlen : (sv_go M t 2 n && (g_see M t (sv_re n)).1.isSome) = true → (g_X (sv_mid M t n saves field) t).2.1.length + (sv_seen (g_sdr (sv_mid M t n saves field) t n) t n).length ≤ 4094 ∧ (sv_seen (g_sdr (sv_mid M t n saves field) t n) t n).length ≤ sl) :
    k_cti (tX11_writeRecord G l) [vR (some a), vR (some (a + c_T t)), vI n, vI (if saves = true then field else -2147483648)] h (fun h' v => c_W a B h' (sv_w M t n saves field).1 (N + 10 + sl) (w + 12) ∧ v = (sv_w M t n saves field).2) := by
  obtain ⟨n0, n9⟩ := in99_s hn
  obtain ⟨j, hj, ej⟩ := in99_n hn
  have hna : s_na n := by rw [ej]; exact na_100 (by omega)
  obtain ⟨o14, -⟩ := W_ob W
  refine k_cti_of (eX11_writeRecord ok.2 (bX11_writeRecord_0 (k_is_o o14) (C_readIndexes ok W ht hok n0 n9 hrd) ?_))
  rintro h1 _ ⟨rfl, W1⟩
  have ok3 : sv_ok (sv_k3 M t) t := ok_rk (ok_rk (ok_rk hok))
  have l1 := g_rk_len M t (sv_co 0)
  have l2 := g_rk_len (g_rk M t (sv_co 0)) t (sv_co 1)
  have l3 := g_rk_len (g_rk (g_rk M t (sv_co 0)) t (sv_co 1)) t (sv_co 2)
  have hcd := s_cd_lt na_m6.2.2.2.2.2.2.1 hna na_m6.2.2.2.2.2.2.2
  refine bX11_writeRecord_6 (c_X11_codeOf_ ok na_m6.2.2.2.2.2.2.1 hna) ?_
  rintro _ _ ⟨hh, rfl⟩
  rw [hh]
  obtain ⟨o14, -⟩ := W_ob W1
  have l4 : (g_X (sv_k3 M t) t).2.2.length < 2048 := by
    show (g_X (g_rk (g_rk (g_rk M t (sv_co 0)) t (sv_co 1)) t (sv_co 2)) t).2.2.length < 2048
    omega
  refine bX11_writeRecord_15 (k_is_o o14) (W_rk ok W1 ht ok3 (by omega) l4) ?_
  rintro h2 _ ⟨rfl, W2⟩
  have esee : g_see (sv_k3 M t) t (s_cd (-1) n 10000) = g_see M t (sv_re n) := by
    unfold sv_k3
    rw [g_rk_see, g_rk_see, g_rk_see]
    rfl
  rw [esee]
  have W2 : c_W a B h2 (sv_r4 M t n) (N + 4) w := W2
  have ok4 : sv_ok (sv_r4 M t n) t := ok_rk ok3
  have SB0 : sv_B (sv_r4 M t n) t 4090 11990 (2 ^ 29) := sv_B_rk (sv_B_rk (sv_B_rk (sv_B_rk SB _) _) _) _
  have hhad : o_told (g_see M t (sv_re n)).1 = -2147483648 ↔ (g_see M t (sv_re n)).1.isSome = false := by
    cases hs : (g_see M t (sv_re n)).1 with
    | none => exact ⟨fun _ => rfl, fun _ => rfl⟩
    | some v => exact ⟨fun z => absurd z (na_ne (hold v hs)), fun z => by cases z⟩
  have hfld : (if saves = true then field else (-2147483648 : Int32)) = -2147483648 ↔ saves = false := by
    cases saves with
    | true => rw [if_pos rfl]; exact ⟨fun z => absurd z (na_ne (hfield rfl)), fun z => by cases z⟩
    | false => exact ⟨fun _ => rfl, fun _ => rfl⟩
  have hold2 : (g_see M t (sv_re n)).1.isSome = true → s_na (o_told (g_see M t (sv_re n)).1) := fun e => by
    obtain ⟨v, hv⟩ := Option.isSome_iff_exists.mp e
    rw [hv]
    exact hold v hv
  have hf2 : saves = true → (if saves = true then field else (-2147483648 : Int32)) = field := fun e => by rw [if_pos e]
  generalize hfc : (if saves = true then field else (-2147483648 : Int32)) = fc at hfld hf2
  generalize hgh : (g_see M t (sv_re n)).1.isSome = had at hhad hold2 hlen
  generalize hgo : o_told (g_see M t (sv_re n)).1 = old at hhad hold2
  obtain ⟨b0, b1, b2⟩ := gv_bits (sv_go M t 0 n) (sv_go M t 1 n) (sv_go M t 2 n)
  -- the states
  have A1e : ∀ M0, M0 = sv_r4 M t n → sv_p (sv_go M t 0 n) (sv_go M t 1 n) had saves t n old field M0 = sv_1 (sv_go M t 1 n && saves) t 2 (s_cd (-3) field 10000) 1 0 (sv_1 (sv_go M t 1 n && had) t 2 (s_cd (-3) old 10000) (-1) 0 (sv_1 (sv_go M t 0 n && saves) t 0 (s_cd (-2) field n) 0 0 (sv_1 (sv_go M t 0 n && had) t 1 (s_cd (-2) old n) 0 0 M0))) := fun _ _ => rfl
  have emid : sv_mid M t n saves field = sv_p (sv_go M t 0 n) (sv_go M t 1 n) had saves t n old field (sv_r4 M t n) := by
    unfold sv_mid
    rw [hgh, hgo]
  rw [emid, A1e _ rfl] at hlen
  have efin : ¬ (saves = false ∧ had = false) → (sv_w M t n saves field) = (g_kc (sv_1 (sv_go M t 2 n && saves) t 6 (s_cd (-4) 0 n) field 1 (sv_q (sv_go M t 2 n && had) t n (sv_1 (sv_go M t 1 n && saves) t 2 (s_cd (-3) field 10000) 1 0 (sv_1 (sv_go M t 1 n && had) t 2 (s_cd (-3) old 10000) (-1) 0 (sv_1 (sv_go M t 0 n && saves) t 0 (s_cd (-2) field n) 0 0 (sv_1 (sv_go M t 0 n && had) t 1 (s_cd (-2) old n) 0 0 (sv_r4 M t n))))))) t (if saves = true then 0 else 1) (sv_re n) fc 0, old) := fun hc => by
    unfold sv_w sv_all sv_f
    rw [if_neg, hgh, hgo, A1e _ rfl, hfc]
    rintro ⟨z1, z2⟩
    refine hc ⟨z1, ?_⟩
    rw [← hgh, z2]
    rfl
  have efin0 : saves = false ∧ had = false → sv_w M t n saves field = (sv_r4 M t n, -2147483648) := fun hc => by
    have hs0 : (g_see M t (sv_re n)).1 = none := by
      have h2 := hc.2
      rw [← hgh] at h2
      cases hs : (g_see M t (sv_re n)).1 with
      | none => rfl
      | some v => rw [hs] at h2; cases h2
    unfold sv_w
    rw [if_pos ⟨hc.1, hs0⟩]
  generalize hM0 : sv_r4 M t n = M0 at W2 ok4 SB0 hlen efin efin0
  have c60 : c_n6 M0 t ≤ 12 := by
    rw [← hM0]
    have : c_n6 (sv_r4 M t n) t = c_n6 M t := by
      unfold sv_r4
      rw [c_n6_rk, c_n6_rk, c_n6_rk, c_n6_rk]
    rw [this]
    exact Nat.le_trans (List.countP_le_length) h12
  have SB1 := sv_B_1 SB0 (sv_go M t 0 n && had) 1 (s_cd (-2) old n) 0 0
  have ok1 := ok_1 (z := sv_go M t 0 n && had) (k := 1) (c := s_cd (-2) old n) (v := 0) (p := 0) ok4 (Or.inr (Or.inr (Or.inl rfl)))
  have c61 := c_n6_1 (M := M0) (t := t) (z := sv_go M t 0 n && had) (k := 1) (c := s_cd (-2) old n) (v := 0) (p := 0) (by decide)
  have TA0 : (sv_go M t 0 n && had) = true → ∀ hh, c_W a B hh M0 (N + 4) w → k_ctv (tX11_takeAway G l) [vR (some a), vR (some (a + c_T t)), vI 0, vI n, vI old] hh (fun hh => c_W a B hh (sv_1 (sv_go M t 0 n && had) t 1 (s_cd (-2) old n) 0 0 M0) (N + 5) w) := fun e hh W => by
    rw [Bool.and_eq_true] at e
    rw [sv_1_t (by rw [e.1, e.2]; rfl)]
    exact C_takeAway0 ok W ht ok4 hna (hold2 e.2) ⟨SB0.1, Nat.le_trans SB0.2.1 (by omega), SB0.2.2⟩ (by omega)
  have TA00 : (sv_go M t 0 n && had) = false → ∀ hh, c_W a B hh M0 (N + 4) w → c_W a B hh (sv_1 (sv_go M t 0 n && had) t 1 (s_cd (-2) old n) 0 0 M0) (N + 5) w := fun e hh W => by
    rw [sv_1_f e]; exact W_le W (by omega)
  generalize sv_1 (sv_go M t 0 n && had) t 1 (s_cd (-2) old n) 0 0 M0 = M1 at SB1 ok1 c61 TA0 TA00 hlen efin
  have SB2 := sv_B_1 SB1 (sv_go M t 0 n && saves) 0 (s_cd (-2) field n) 0 0
  have ok2 := ok_1 (z := sv_go M t 0 n && saves) (k := 0) (c := s_cd (-2) field n) (v := 0) (p := 0) ok1 (Or.inr (Or.inl rfl))
  have c62 := c_n6_1 (M := M1) (t := t) (z := sv_go M t 0 n && saves) (k := 0) (c := s_cd (-2) field n) (v := 0) (p := 0) (by decide)
  have PT0 : (sv_go M t 0 n && saves) = true → ∀ hh, c_W a B hh M1 (N + 5) w → k_ctv (tX11_putThere G l) [vR (some a), vR (some (a + c_T t)), vI 0, vI n, vI fc] hh (fun hh => c_W a B hh (sv_1 (sv_go M t 0 n && saves) t 0 (s_cd (-2) field n) 0 0 M1) (N + 6) w) := fun e hh W => by
    rw [Bool.and_eq_true] at e
    rw [sv_1_t (by rw [e.1, e.2]; rfl), hf2 e.2]
    exact C_putThere0 ok W ht ok1 hna (hfield e.2) ⟨SB1.1, Nat.le_trans SB1.2.1 (by omega), SB1.2.2⟩ (by omega)
  have PT00 : (sv_go M t 0 n && saves) = false → ∀ hh, c_W a B hh M1 (N + 5) w → c_W a B hh (sv_1 (sv_go M t 0 n && saves) t 0 (s_cd (-2) field n) 0 0 M1) (N + 6) w := fun e hh W => by
    rw [sv_1_f e]; exact W_le W (by omega)
  generalize sv_1 (sv_go M t 0 n && saves) t 0 (s_cd (-2) field n) 0 0 M1 = M2 at SB2 ok2 c62 PT0 PT00 hlen efin
  have SB3 := sv_B_1 SB2 (sv_go M t 1 n && had) 2 (s_cd (-3) old 10000) (-1) 0
  have ok3 := ok_1 (z := sv_go M t 1 n && had) (k := 2) (c := s_cd (-3) old 10000) (v := -1) (p := 0) ok2 (Or.inr (Or.inr (Or.inr rfl)))
  have c63 := c_n6_1 (M := M2) (t := t) (z := sv_go M t 1 n && had) (k := 2) (c := s_cd (-3) old 10000) (v := -1) (p := 0) (by decide)
  have TA1 : (sv_go M t 1 n && had) = true → ∀ hh, c_W a B hh M2 (N + 6) w → k_ctv (tX11_takeAway G l) [vR (some a), vR (some (a + c_T t)), vI 1, vI n, vI old] hh (fun hh => c_W a B hh (sv_1 (sv_go M t 1 n && had) t 2 (s_cd (-3) old 10000) (-1) 0 M2) (N + 7) w) := fun e hh W => by
    rw [Bool.and_eq_true] at e
    rw [sv_1_t (by rw [e.1, e.2]; rfl)]
    exact C_takeAway1 ok W ht ok2 (hold2 e.2) ⟨SB2.1, Nat.le_trans SB2.2.1 (by omega), SB2.2.2⟩ (by omega)
  have TA10 : (sv_go M t 1 n && had) = false → ∀ hh, c_W a B hh M2 (N + 6) w → c_W a B hh (sv_1 (sv_go M t 1 n && had) t 2 (s_cd (-3) old 10000) (-1) 0 M2) (N + 7) w := fun e hh W => by
    rw [sv_1_f e]; exact W_le W (by omega)
  generalize sv_1 (sv_go M t 1 n && had) t 2 (s_cd (-3) old 10000) (-1) 0 M2 = M3 at SB3 ok3 c63 TA1 TA10 hlen efin
  have SB4 := sv_B_1 SB3 (sv_go M t 1 n && saves) 2 (s_cd (-3) field 10000) 1 0
  have ok4 := ok_1 (z := sv_go M t 1 n && saves) (k := 2) (c := s_cd (-3) field 10000) (v := 1) (p := 0) ok3 (Or.inr (Or.inr (Or.inr rfl)))
  have c64 := c_n6_1 (M := M3) (t := t) (z := sv_go M t 1 n && saves) (k := 2) (c := s_cd (-3) field 10000) (v := 1) (p := 0) (by decide)
  have PT1 : (sv_go M t 1 n && saves) = true → ∀ hh, c_W a B hh M3 (N + 7) w → k_ctv (tX11_putThere G l) [vR (some a), vR (some (a + c_T t)), vI 1, vI n, vI fc] hh (fun hh => c_W a B hh (sv_1 (sv_go M t 1 n && saves) t 2 (s_cd (-3) field 10000) 1 0 M3) (N + 8) w) := fun e hh W => by
    rw [Bool.and_eq_true] at e
    rw [sv_1_t (by rw [e.1, e.2]; rfl), hf2 e.2]
    exact C_putThere1 ok W ht ok3 (hfield e.2) ⟨SB3.1, Nat.le_trans SB3.2.1 (by omega), SB3.2.2⟩ (by omega)
  have PT10 : (sv_go M t 1 n && saves) = false → ∀ hh, c_W a B hh M3 (N + 7) w → c_W a B hh (sv_1 (sv_go M t 1 n && saves) t 2 (s_cd (-3) field 10000) 1 0 M3) (N + 8) w := fun e hh W => by
    rw [sv_1_f e]; exact W_le W (by omega)
  generalize sv_1 (sv_go M t 1 n && saves) t 2 (s_cd (-3) field 10000) 1 0 M3 = M4 at SB4 ok4 c64 PT1 PT10 hlen efin
  rw [seen_sdr ok4.2.2.2.2.2] at hlen
  have ok5 := ok_q (z := sv_go M t 2 n && had) (n := n) ok4
  have TA2 : (sv_go M t 2 n && had) = true → ∀ hh, c_W a B hh M4 (N + 8) w → k_ctv (tX11_takeAway G l) [vR (some a), vR (some (a + c_T t)), vI 2, vI n, vI old] hh (fun hh => c_W a B hh (sv_q (sv_go M t 2 n && had) t n M4) (N + 8 + sl) (w + 12) ∧ sv_B (sv_q (sv_go M t 2 n && had) t n M4) t 4094 11994 (2 ^ 30)) := fun e hh W => by
    obtain ⟨q1, q2⟩ := hlen e
    have eq : sv_q (sv_go M t 2 n && had) t n M4 = sv_take M4 t n := by unfold sv_q; rw [if_pos e]
    rw [eq]
    obtain ⟨h', tr, W'⟩ := C_takeAway2 ok (old := old) W ht ok4 hna ⟨Nat.le_trans SB4.1 (by omega), Nat.le_trans SB4.2.1 (by omega), Nat.le_trans SB4.2.2 (by omega)⟩ hw q1 (cnt := 12) (by show c_n6 M4 t ≤ 12; omega)
    obtain ⟨Q, S, PS, s, -⟩ := W
    refine ⟨h', tr, W_le W' (by omega), ?_⟩
    have := sv_B_take (n := n) SB4 (sE_n s).2.2.1 (by rw [seen_sdr ok4.2.2.2.2.2]; exact q1) (by omega)
    exact ⟨this.1, this.2.1, Nat.le_trans this.2.2 (by omega)⟩
  have TA20 : (sv_go M t 2 n && had) = false → ∀ hh, c_W a B hh M4 (N + 8) w → c_W a B hh (sv_q (sv_go M t 2 n && had) t n M4) (N + 8 + sl) (w + 12) ∧ sv_B (sv_q (sv_go M t 2 n && had) t n M4) t 4094 11994 (2 ^ 30) := fun e hh W => by
    have eq : sv_q (sv_go M t 2 n && had) t n M4 = M4 := by unfold sv_q; rw [if_neg (by rw [e]; decide)]
    rw [eq]
    exact ⟨W_lew (W_le W (by omega)) (by omega), SB4.1, SB4.2.1, Nat.le_trans SB4.2.2 (by omega)⟩
  generalize sv_q (sv_go M t 2 n && had) t n M4 = M5 at ok5 TA2 TA20 efin
  have ok6 := ok_1 (z := sv_go M t 2 n && saves) (k := 6) (c := s_cd (-4) 0 n) (v := field) (p := 1) ok5 (Or.inl rfl)
  have PT2 : (sv_go M t 2 n && saves) = true → ∀ hh, (c_W a B hh M5 (N + 8 + sl) (w + 12) ∧ sv_B M5 t 4094 11994 (2 ^ 30)) → k_ctv (tX11_putThere G l) [vR (some a), vR (some (a + c_T t)), vI 2, vI n, vI fc] hh (fun hh => c_W a B hh (sv_1 (sv_go M t 2 n && saves) t 6 (s_cd (-4) 0 n) field 1 M5) (N + 9 + sl) (w + 12) ∧ sv_B (sv_1 (sv_go M t 2 n && saves) t 6 (s_cd (-4) 0 n) field 1 M5) t 4095 11995 (2 ^ 30 + 1)) := fun e hh W => by
    have e2 := e
    rw [Bool.and_eq_true] at e
    have hB := sv_B_1 W.2 (sv_go M t 2 n && saves) 6 (s_cd (-4) 0 n) field 1
    rw [hf2 e.2]
    obtain ⟨h', tr, W'⟩ := C_putThere2 ok (field := field) W.1 ht ok5.1 hna (by have := W.2.1; omega)
    refine ⟨h', tr, ?_, hB⟩
    rw [sv_1_t e2]
    exact W_le W' (by omega)
  have PT20 : (sv_go M t 2 n && saves) = false → ∀ hh, (c_W a B hh M5 (N + 8 + sl) (w + 12) ∧ sv_B M5 t 4094 11994 (2 ^ 30)) → c_W a B hh (sv_1 (sv_go M t 2 n && saves) t 6 (s_cd (-4) 0 n) field 1 M5) (N + 9 + sl) (w + 12) ∧ sv_B (sv_1 (sv_go M t 2 n && saves) t 6 (s_cd (-4) 0 n) field 1 M5) t 4095 11995 (2 ^ 30 + 1) := fun e hh W => by
    have hB := sv_B_1 W.2 (sv_go M t 2 n && saves) 6 (s_cd (-4) 0 n) field 1
    refine ⟨?_, hB⟩
    rw [sv_1_f e]
    exact W_le W.1 (by omega)
  generalize sv_1 (sv_go M t 2 n && saves) t 6 (s_cd (-4) 0 n) field 1 M5 = M6 at ok6 PT2 PT20 efin
  -- the loop
  have wob : ∀ {hh : k_H} {M' : s_M} {N' w' : Nat}, c_W a B hh M' N' w' → k_is hh a 14 := fun W => k_is_o (W_ob W).1
  have run : ¬ (saves = false ∧ had = false) → k_X (jX11_writeRecord G l h) h2 36 [(0, vR (some a)), (1, vR (some (a + c_T t))), (2, vI n), (3, vI fc), (4, vI (gv (sv_go M t 0 n) (sv_go M t 1 n) (sv_go M t 2 n))), (5, vI old)] [] (q_i (fun h' v => c_W a B h' (sv_w M t n saves field).1 (N + 10 + sl) (w + 12) ∧ v = (sv_w M t n saves field).2)) := fun hc => by
    rw [efin hc]
    refine bX11_writeRecord_36 ?_
    refine wr_step (P1 := fun hh => c_W a B hh M0 (N + 4) w) (P2 := fun hh => c_W a B hh M1 (N + 5) w) (P3 := fun hh => c_W a B hh M2 (N + 6) w) (by decide) b0 hhad hfld (fun _ W => wob W) (fun _ W => wob W) TA0 TA00 PT0 PT00 (fun h3 W3 => ?_) h2 W2
    rw [show (0 + 1 : Int32) = 1 from by decide]
    refine wr_step (P1 := fun hh => c_W a B hh M2 (N + 6) w) (P2 := fun hh => c_W a B hh M3 (N + 7) w) (P3 := fun hh => c_W a B hh M4 (N + 8) w) (by decide) b1 hhad hfld (fun _ W => wob W) (fun _ W => wob W) TA1 TA10 PT1 PT10 (fun h4 W4 => ?_) h3 W3
    rw [show (1 + 1 : Int32) = 2 from by decide]
    refine wr_step (P1 := fun hh => c_W a B hh M4 (N + 8) w) (P2 := fun hh => c_W a B hh M5 (N + 8 + sl) (w + 12) ∧ sv_B M5 t 4094 11994 (2 ^ 30)) (P3 := fun hh => c_W a B hh M6 (N + 9 + sl) (w + 12) ∧ sv_B M6 t 4095 11995 (2 ^ 30 + 1)) (by decide) b2 hhad hfld (fun _ W => wob W) (fun _ W => wob W.1) TA2 TA20 PT2 PT20 (fun h5 W5 => ?_) h4 W4
    rw [show (2 + 1 : Int32) = 3 from by decide]
    obtain ⟨W5, SB6⟩ := W5
    obtain ⟨o14, -⟩ := W_ob W5
    have fin : ∀ k : Int32, k = (if saves = true then 0 else 1) → k_X (jX11_writeRecord G l h) h5 123 [(2, vI n), (3, vI fc), (5, vI old)] [vI k, vR (some (a + c_T t)), vR (some a)] (q_i (fun h' v => c_W a B h' (g_kc M6 t (if saves = true then 0 else 1) (sv_re n) fc 0) (N + 10 + sl) (w + 12) ∧ v = old)) := fun k hk => by
      refine bX11_writeRecord_123 (c_X11_codeOf_ ok na_m6.2.2.2.2.2.2.1 hna) ?_
      rintro _ _ ⟨hh, rfl⟩
      rw [hh]
      have hk2 : k = 0 ∨ k = 1 ∨ k = 2 := by rw [hk]; split; exact Or.inl rfl; exact Or.inr (Or.inl rfl)
      refine bX11_writeRecord_128 (k_is_o o14) (W_kc ok (v := fc) W5 ht ok6 hk2 hcd ⟨SB6.1, Nat.le_trans SB6.2.1 (by omega), SB6.2.2⟩ (by omega)) ?_
      rintro h6 W6
      rw [hk] at W6
      exact bX11_writeRecord_132 ⟨_, rfl, W_le W6 (by omega), rfl⟩
    refine bX11_writeRecord_39 (fun _ => bX11_writeRecord_110 (fun c => bX11_writeRecord_122 (fin 0 ?_)) (fun c => bX11_writeRecord_118 (fin 1 ?_))) (fun c => absurd (by decide) c)
    · rw [if_pos]
      cases hsv : saves with
      | true => rfl
      | false => exact absurd (hfld.mpr hsv) c
    · rw [if_neg (by rw [hfld.mp c]; decide)]
  refine bX11_writeRecord_18 (fun c => run (fun z => c (hhad.mpr z.2))) (fun c => bX11_writeRecord_27 (fun d => run (fun z => d (hfld.mpr z.1))) (fun d => bX11_writeRecord_33 ?_))
  rw [efin0 ⟨hfld.mp d, hhad.mp c⟩]
  exact ⟨_, rfl, W_lew (W_le W2 (by omega)) (by omega), rfl⟩
/-- what a save needs -/
def sv_C (M : s_M) (n field : Int32) (saves : Bool) (sl : Nat) : Prop := ∀ t, t < 4 → s_inB n 0 99 = true → (saves = true → s_inB field 0 99 = true) → g_shut M t = false → sv_ok M t ∧ sv_L M t n saves field ∧ sv_st M t n = false ∧ ((sv_go M t 2 n && (g_see M t (sv_re n)).1.isSome) = true → (sv_seen (g_sdr (sv_mid M t n saves field) t n) t n).length ≤ sl)
theorem C_save (ok : k_ok G l) {a N w sl : Nat} {B : Nat × Nat} {h : k_H} {M : s_M} {x n field : Int32} (W : c_W a B h M N w) (hw : w ≤ 8000) (hl9 : ∀ t, t < 4 → (g_X M t).2.1.length < 2 ^ 20) (hC : sv_C M n field true sl) : k_ct (tX11_save G l) [vR (some a), vI x, vI n, vI field] h (c_R a B (F_save M x n field) x_3 (N + 10 + sl) (w + 12)) := by
  obtain ⟨Q, S, PS, s, r, p, co⟩ := id W
  obtain ⟨r1, r2, r3, r4, r5, r6, r7⟩ := id r
  have X1 : ∀ {k : Nat}, k ≠ 0 → F_save M x n field = (M, k, 0) → c_R a B (F_save M x n field) x_3 (N + 10 + sl) (w + 12) (k_sk h 1 6) (.inr (x_3 k)) := fun hk hF => by
    rw [hF]
    refine ⟨W_lew (W_le (W_sk W) (by omega)) (by omega), ?_⟩
    show _ = if _ = 0 then _ else _
    rw [if_neg hk]
  refine eX11_save ok.2 ?_
  cases hin : s_inB x 0 3 with
  | false =>
    refine bX11_save_0x (k_is_o r3) (c_trAtX ok r3 r4 hin) ?_
    rintro _ rfl
    exact X1 (k := 1) (by decide) (by unfold F_save F_saved; rw [if_pos hin])
  | true =>
    obtain ⟨t, ht, rfl, e9⟩ := s_in4 hin
    have e9 : t_of (nI t) = t := e9
    refine bX11_save_0 (k_is_o r3) (c_trAt ok r3 r4 r1 ht) ?_
    rintro _ _ ⟨hh, rfl⟩
    rw [hh]
    cases hn : s_inB n 0 99 with
    | false =>
      refine bX11_save_5x (x_X11_requireRecord ok (in99_not hn)) ?_
      rintro _ rfl
      exact X1 (k := 2) (by decide) (by unfold F_save F_saved; rw [if_neg (by rw [hin]; decide), hn, Bool.false_and, if_pos rfl])
    | true =>
      refine bX11_save_5 (c_X11_requireRecord ok (in99 hn)) ?_
      rintro _ hh
      rw [hh]
      cases hf : s_inB field 0 99 with
      | false =>
        refine bX11_save_11x (x_X11_requireField ok (in99_not hf)) ?_
        rintro _ rfl
        exact X1 (k := 2) (by decide) (by unfold F_save F_saved; rw [if_neg (by rw [hin]; decide), hf, hn, if_pos (by decide)])
      | true =>
        refine bX11_save_11 (c_X11_requireField ok (in99 hf)) ?_
        rintro _ hh
        rw [hh]
        have hall : ¬ (s_inB n 0 99 && (!true || s_inB field 0 99)) = false := by rw [hn, hf]; decide
        cases hsh : g_shut M t with
        | true =>
          refine bX11_save_15x (c_roomX ok r1 ht (hl9 t ht) hsh) ?_
          rintro _ rfl
          exact X1 (k := 3) (by decide) (by unfold F_save F_saved; rw [if_neg (by rw [hin]; decide), if_neg hall, e9, if_pos (by rw [hsh]; rfl)])
        | false =>
          obtain ⟨q1, ⟨q2, q3, q4, q5⟩, q6, q7⟩ := hC t ht hn (fun _ => hf) hsh
          obtain ⟨hb, hl⟩ := g_shutF hsh
          have hF : F_save M (nI t) n field = ((sv_w M t n true field).1, 0, (sv_w M t n true field).2) := by
            unfold F_save F_saved; rw [if_neg (by rw [hin]; decide), if_neg hall, e9, if_neg (by rw [hsh, q6]; decide)]
          refine bX11_save_15 (c_room ok r1 ht hb hl) ?_
          rintro _ hh
          rw [hh]
          have hfna : s_na field := by obtain ⟨j, hj, e⟩ := in99_n hf; rw [e]; exact na_100 (by omega)
          have := C_writeRecord ok (saves := true) (field := field) W ht q1 hn (fun _ => hfna) q2 q3 q4 hw (by omega) (fun e => ⟨q5 e, q7 e⟩)
          refine bX11_save_20 (k_is_o r3) this ?_
          rintro h2 _ ⟨W2, rfl⟩
          exact bX11_save_28 (R_ok W2 hF)
theorem C_erase (ok : k_ok G l) {a N w sl : Nat} {B : Nat × Nat} {h : k_H} {M : s_M} {x n : Int32} (W : c_W a B h M N w) (hw : w ≤ 8000) (hl9 : ∀ t, t < 4 → (g_X M t).2.1.length < 2 ^ 20) (hC : sv_C M n 0 false sl) : k_ct (tX11_erase G l) [vR (some a), vI x, vI n] h (c_R a B (F_erase M x n) x_3 (N + 10 + sl) (w + 12)) := by
  obtain ⟨Q, S, PS, s, r, p, co⟩ := id W
  obtain ⟨r1, r2, r3, r4, r5, r6, r7⟩ := id r
  have X1 : ∀ {k : Nat}, k ≠ 0 → F_erase M x n = (M, k, 0) → c_R a B (F_erase M x n) x_3 (N + 10 + sl) (w + 12) (k_sk h 1 6) (.inr (x_3 k)) := fun hk hF => by
    rw [hF]
    refine ⟨W_lew (W_le (W_sk W) (by omega)) (by omega), ?_⟩
    show _ = if _ = 0 then _ else _
    rw [if_neg hk]
  refine eX11_erase ok.2 ?_
  cases hin : s_inB x 0 3 with
  | false =>
    refine bX11_erase_0x (k_is_o r3) (c_trAtX ok r3 r4 hin) ?_
    rintro _ rfl
    exact X1 (k := 1) (by decide) (by unfold F_erase F_saved; rw [if_pos hin])
  | true =>
    obtain ⟨t, ht, rfl, e9⟩ := s_in4 hin
    have e9 : t_of (nI t) = t := e9
    refine bX11_erase_0 (k_is_o r3) (c_trAt ok r3 r4 r1 ht) ?_
    rintro _ _ ⟨hh, rfl⟩
    rw [hh]
    cases hn : s_inB n 0 99 with
    | false =>
      refine bX11_erase_5x (x_X11_requireRecord ok (in99_not hn)) ?_
      rintro _ rfl
      exact X1 (k := 2) (by decide) (by unfold F_erase F_saved; rw [if_neg (by rw [hin]; decide), hn, Bool.false_and, if_pos rfl])
    | true =>
      refine bX11_erase_5 (c_X11_requireRecord ok (in99 hn)) ?_
      rintro _ hh
      rw [hh]
      have hall : ¬ (s_inB n 0 99 && (!false || s_inB 0 0 99)) = false := by rw [hn]; decide
      cases hsh : g_shut M t with
      | true =>
        refine bX11_erase_10x (c_roomX ok r1 ht (hl9 t ht) hsh) ?_
        rintro _ rfl
        exact X1 (k := 3) (by decide) (by unfold F_erase F_saved; rw [if_neg (by rw [hin]; decide), if_neg hall, e9, if_pos (by rw [hsh]; rfl)])
      | false =>
        obtain ⟨q1, ⟨q2, q3, q4, q5⟩, q6, q7⟩ := hC t ht hn (fun z => by cases z) hsh
        obtain ⟨hb, hl⟩ := g_shutF hsh
        have hF : F_erase M (nI t) n = ((sv_w M t n false 0).1, 0, (sv_w M t n false 0).2) := by
          unfold F_erase F_saved; rw [if_neg (by rw [hin]; decide), if_neg hall, e9, if_neg (by rw [hsh, q6]; decide)]
        refine bX11_erase_10 (c_room ok r1 ht hb hl) ?_
        rintro _ hh
        rw [hh]
        have := C_writeRecord ok (saves := false) (field := 0) W ht q1 hn (fun z => by cases z) q2 q3 q4 hw (by omega) (fun e => ⟨q5 e, q7 e⟩)
        refine bX11_erase_14 (k_is_o r3) this ?_
        rintro h2 _ ⟨W2, rfl⟩
        exact bX11_erase_22 (R_ok W2 hF)
end CS3
