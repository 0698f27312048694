/-! THE CLASS SAVES AND ERASES RECORDS: what is taken away -/
theorem W_lew {a N w w' : Nat} {B : Nat × Nat} {h : k_H} {M : s_M} (W : c_W a B h M N w) (hw : w ≤ w') : c_W a B h M N w' := by
  obtain ⟨Q, S, PS, s, ⟨r1, r2⟩, p, co⟩ := W
  obtain ⟨CXf, x1, x2⟩ := r1
  exact ⟨Q, S, PS, s, ⟨⟨CXf, fun t ht => tb_ser (x1 t ht) (Nat.le_refl _) hw, x2⟩, r2⟩, p, co⟩
theorem W_wc {a N w t : Nat} {B : Nat × Nat} {h : k_H} {M : s_M} (W : c_W a B h M N w) (ht : t < 4) (hb : (g_X M t).1.1 = true) : ∀ y ∈ (g_X M t).2.1, c_wc y := by
  obtain ⟨Q, S, PS, s, ⟨⟨CXf, x1, -⟩, -⟩, p, co⟩ := W
  obtain ⟨RS, cap, capR, kept, o1, -, d⟩ := x1 t ht
  obtain ⟨⟨d0, -⟩, ⟨-, d3⟩, -⟩ := d hb
  intro y hy
  rw [d0] at hy
  obtain ⟨z, hz, rfl⟩ := List.mem_map.mp hy
  exact (d3 z (List.mem_filter.mp hz).1).2
theorem see_flt {c : Nat} {p : k_CH → Bool} : ∀ (CS : List k_CH) (z : Option Int32 × Bool), (∀ y ∈ CS, p y = false → s_cov y c = false) → s_see c (CS.filter p) z = s_see c CS z := by
  intro CS
  induction CS with
  | nil => exact fun _ _ => rfl
  | cons y CS ih =>
    intro z hy
    have hy2 := fun x hx => hy x (List.mem_cons_of_mem _ hx)
    cases hp : p y with
    | true =>
      rw [List.filter_cons_of_pos (by rw [hp])]
      show s_see c (CS.filter p) (if s_cov y c = true then _ else _) = s_see c CS (if s_cov y c = true then _ else _)
      exact ih _ hy2
    | false =>
      rw [List.filter_cons_of_neg (by rw [hp]; decide), ih _ hy2]
      show _ = s_see c CS (if s_cov y c = true then _ else z)
      rw [if_neg (by rw [hy y List.mem_cons_self hp]; decide)]
theorem ck8 {y : k_CH} (h : m_ck y = 8) (h8 : ¬ y.2.1 = 8) : y.2.1 = 6 ∧ y.2.2.1 / 121000000 = 996 := by
  unfold m_ck at h
  split at h
  · exact absurd h (by decide)
  · split at h
    · assumption
    · exact absurd h h8
/-- stamped changes are forgotten -/
def g_fg (M : s_M) (t c : Nat) : s_M := g_tx M t ((g_X M t).1, (g_X M t).2.1.filter (fun x => !(decide (x.2.1 = 6) && decide (x.2.2.1 = c))), (g_X M t).2.2)
theorem fg_kc {M : s_M} {t c d : Nat} : g_fg (g_kc M t 1 d 0 0) t c = g_kc (g_fg M t c) t 1 d 0 0 := by
  have hs : g_X (g_kc M t 1 d 0 0) t = ((g_X M t).1, (g_X M t).2.1 ++ [(g_ser M + 1, 1, d, d + 1, 0, 0)], (g_X M t).2.2) := g_kc_X M t 1 d 0 0
  have hs2 : g_X (g_fg M t c) t = ((g_X M t).1, (g_X M t).2.1.filter (fun x => !(decide (x.2.1 = 6) && decide (x.2.2.1 = c))), (g_X M t).2.2) := by
    show (if t = t then _ else _) = _
    rw [if_pos rfl]
  refine Prod.ext rfl (Prod.ext rfl (Prod.ext (funext fun q => ?_) rfl))
  show (if q = t then ((g_X (g_kc M t 1 d 0 0) t).1, (g_X (g_kc M t 1 d 0 0) t).2.1.filter (fun x => !(decide (x.2.1 = 6) && decide (x.2.2.1 = c))), (g_X (g_kc M t 1 d 0 0) t).2.2) else g_X (g_kc M t 1 d 0 0) q) = (if q = t then ((g_X (g_fg M t c) t).1, (g_X (g_fg M t c) t).2.1 ++ [(g_ser M + 1, 1, d, d + 1, 0, 0)], (g_X (g_fg M t c) t).2.2) else g_X (g_fg M t c) q)
  by_cases e : q = t
  · rw [if_pos e, if_pos e, hs, hs2, List.filter_append]
    rfl
  · rw [if_neg e, if_neg e]
    show (if q = t then _ else g_X M q) = (if q = t then _ else g_X M q)
    rw [if_neg e, if_neg e]
theorem cls_E {t : Nat} : ∀ (X : List k_K2) (M : s_M), (g_E M).1.Pairwise (fun x y => x.1 < y.1) → (∀ x ∈ X, ∃ q, (x.1, q) ∈ (g_E M).1) → g_E (g_cls t X M) = g_E M := by
  intro X
  induction X with
  | nil => exact fun _ _ _ => rfl
  | cons x X ih =>
    intro M hs hX
    obtain ⟨q, hq⟩ := hX x List.mem_cons_self
    have e : g_E (g_kc M t 1 x.1 0 0) = g_E M := g_kc_E hs hq
    show g_E (g_cls t X (g_kc M t 1 x.1 0 0)) = _
    rw [ih _ (by rw [e]; exact hs) (by rw [e]; exact fun y hy => hX y (List.mem_cons_of_mem _ hy)), e]
theorem fg_cls {t c : Nat} : ∀ (X : List k_K2) (M : s_M), g_fg (g_cls t X M) t c = g_cls t X (g_fg M t c) := by
  intro X
  induction X with
  | nil => exact fun _ => rfl
  | cons x X ih =>
    intro M
    show g_fg (g_cls t X (g_kc M t 1 x.1 0 0)) t c = g_cls t X (g_kc (g_fg M t c) t 1 x.1 0 0)
    rw [ih, fg_kc]
theorem cls_codes {t : Nat} : ∀ {X Y : List k_K2} (M : s_M), X.map (fun x => x.1) = Y.map (fun x => x.1) → g_cls t X M = g_cls t Y M := by
  intro X
  induction X with
  | nil =>
    intro Y M h
    cases Y with
    | nil => rfl
    | cons y Y => cases h
  | cons x X ih =>
    intro Y M h
    cases Y with
    | nil => cases h
    | cons y Y =>
      rw [List.map_cons, List.map_cons] at h
      injection h with h1 h2
      show g_cls t X (g_kc M t 1 x.1 0 0) = g_cls t Y (g_kc M t 1 y.1 0 0)
      rw [h1]
      exact ih _ h2
theorem fg_sdr {M : s_M} {t : Nat} {n : Int32} (hn : s_na n) (hw : ∀ y ∈ (g_X M t).2.1, c_wc y) (h8 : ∀ y ∈ (g_X M t).2.1, ¬ y.2.1 = 8) : g_fg M t (s_cd (-4) 0 n) = g_sdr M t n := by
  have h4 : s_na (-4) := na_m6.2.2.2.1
  have h0 : s_na 0 := na_100 (k := 0) (by omega)
  unfold g_fg g_sdr sv_drop
  congr 2
  refine congrArg (fun z => (z, (g_X M t).2.2)) (List.filter_congr fun y hy => ?_)
  congr 1
  unfold sv_is
  rw [Bool.eq_iff_iff]
  simp only [Bool.and_eq_true, decide_eq_true_eq]
  constructor
  · rintro ⟨e1, e2⟩
    have e3 : y.2.2.1 / 121000000 = 996 := by rw [e2, s_cd_div h0 hn]; decide
    refine ⟨?_, by rw [e2]; exact s_no_2 h4 h0 hn⟩
    unfold m_ck
    rw [if_neg (fun z => by rw [e1] at z; exact absurd z.1 (by decide)), if_pos ⟨e1, e3⟩]
  · rintro ⟨e1, e2⟩
    obtain ⟨e3, e4⟩ := ck8 e1 (h8 y hy)
    refine ⟨e3, ?_⟩
    have := (hw y hy).2.2.2.2 e3 e4
    rw [e2] at this
    exact this
theorem seen_sdr {M : s_M} {t : Nat} {n : Int32} (h8 : ∀ y ∈ (g_X M t).2.1, ¬ y.2.1 = 8) : sv_seen (g_sdr M t n) t n = sv_seen M t n := by
  have hX : g_X (g_sdr M t n) t = ((g_X M t).1, sv_drop n (g_X M t).2.1, (g_X M t).2.2) := g_sdr_X M t n
  have e : ∀ c, g_see (g_sdr M t n) t c = g_see M t c := fun c => by
    unfold g_see
    rw [hX]
    show s_see c (sv_drop n (g_X M t).2.1) (r_val c (g_X M t).1.2.2.1 (g_E M).2.1, false) = _
    unfold sv_drop
    refine see_flt _ _ fun y hy hf => ?_
    have hf2 : sv_is n y = true := by cases h : sv_is n y with | true => rfl | false => rw [h] at hf; cases hf
    unfold sv_is at hf2
    rw [Bool.and_eq_true, decide_eq_true_eq] at hf2
    obtain ⟨e3, e4⟩ := ck8 hf2.1 (h8 y hy)
    unfold s_cov s_ord
    rw [e3]
    simp
  unfold sv_seen g_rng
  have : (fun c => s_vis (g_see (g_sdr M t n) t c)) = (fun c => s_vis (g_see M t c)) := funext fun c => by rw [e]
  rw [this]
  rfl
/-- what keeps give -/
def sv_ok (M : s_M) (t : Nat) : Prop := (g_X M t).1.1 = true ∧ (g_X M t).1.2.2.1 ≤ g_n M ∧ g_nm M ∧ (g_E M).2.1.length ≤ 420000 ∧ (g_E M).2.2.length ≤ 8192 ∧ (∀ y ∈ (g_X M t).2.1, ¬ y.2.1 = 8)
theorem ok_kc {M : s_M} {t c : Nat} {k v p : Int32} (h : sv_ok M t) (hk : k = 6 ∨ k = 0 ∨ k = 1 ∨ k = 2) : sv_ok (g_kc M t k c v p) t := by
  obtain ⟨h1, h2, h3, h4, h5, h6⟩ := h
  have hX := g_kc_X M t k c v p
  refine ⟨by rw [hX]; exact h1, by rw [hX]; exact h2, ?_, h4, h5, fun y hy => ?_⟩
  · intro u hu y hy
    have sub : ∀ z ∈ (g_E M).1, ∃ q, (z.1, q) ∈ (g_E (g_kc M t k c v p)).1 := fun z hz => by
      show ∃ q, (z.1, q) ∈ (if m_ck (g_ser M + 1, k, c, c + 1, v, p) < 6 then m_ins c (g_E M).1 else (g_E M).1)
      split
      · exact ⟨z.2, m_ins_iff.mpr (Or.inl hz)⟩
      · exact ⟨z.2, hz⟩
    have old : ∀ y ∈ (g_X M u).2.1, y.2.1 = 1 ∨ y.2.1 = 6 ∨ (y.2.2.2.1 = y.2.2.1 + 1 ∧ ∃ q, (y.2.2.1, q) ∈ (g_E (g_kc M t k c v p)).1) := fun y hy => by
      rcases h3 u hu y hy with e | e | ⟨e, q, hq⟩
      · exact Or.inl e
      · exact Or.inr (Or.inl e)
      · exact Or.inr (Or.inr ⟨e, sub _ hq⟩)
    by_cases e : u = t
    · subst e
      rw [hX] at hy
      rcases List.mem_append.mp hy with hy | hy
      · exact old y hy
      · rw [List.mem_singleton.mp hy]
        rcases hk with hk | hk | hk | hk
        · exact Or.inr (Or.inl hk)
        · refine Or.inr (Or.inr ⟨rfl, ?_⟩)
          show ∃ q, (c, q) ∈ (if m_ck (g_ser M + 1, k, c, c + 1, v, p) < 6 then m_ins c (g_E M).1 else (g_E M).1)
          rw [m_ck_kc _ (fun z => by rw [hk] at z; exact absurd z.1 (by decide)), if_pos (by rw [hk]; decide)]
          exact m_ins_has c
        · exact Or.inl hk
        · refine Or.inr (Or.inr ⟨rfl, ?_⟩)
          show ∃ q, (c, q) ∈ (if m_ck (g_ser M + 1, k, c, c + 1, v, p) < 6 then m_ins c (g_E M).1 else (g_E M).1)
          rw [m_ck_kc _ (fun z => by rw [hk] at z; exact absurd z.1 (by decide)), if_pos (by rw [hk]; decide)]
          exact m_ins_has c
    · have hXu : g_X (g_kc M t k c v p) u = g_X M u := by
        show (if u = t then _ else g_X M u) = _
        rw [if_neg e]
      rw [hXu] at hy
      exact old y hy
  · rw [hX] at hy
    rcases List.mem_append.mp hy with hy | hy
    · exact h6 y hy
    · rw [List.mem_singleton.mp hy]
      show ¬ k = 8
      rcases hk with hk | hk | hk | hk <;> rw [hk] <;> decide
theorem ok_rk {M : s_M} {t c : Nat} (h : sv_ok M t) : sv_ok (g_rk M t c) t := by
  obtain ⟨h1, h2, h3, h4, h5, h6⟩ := h
  have hX : g_X (g_rk M t c) t = ((g_X M t).1, (g_X M t).2.1, s_rdk true (g_X M t).2.1 (g_X M t).2.2 c (g_ser M)) := by
    show (if t = t then _ else _) = _
    rw [if_pos rfl]
  refine ⟨by rw [hX]; exact h1, by rw [hX]; exact h2, fun u hu y hy => ?_, h4, h5, fun y hy => ?_⟩
  · by_cases e : u = t
    · subst e
      rw [hX] at hy
      exact h3 u hu y hy
    · have hXu : g_X (g_rk M t c) u = g_X M u := by
        show (if u = t then _ else g_X M u) = _
        rw [if_neg e]
      rw [hXu] at hy
      exact h3 u hu y hy
  · rw [hX] at hy
    exact h6 y hy
theorem ok_lim {M : s_M} {t a b c : Nat} (h : sv_ok M t) (B : sv_B M t a b c) (hb : b ≤ 12000) : e_lim (g_E M) := ⟨Nat.le_trans B.2.1 hb, h.2.2.2.1, h.2.2.2.2.1⟩
section CSV
variable {G : k_G} {l : Launch}
theorem c_E_keyForP (ok : k_ok G l) {a : Nat} {h : k_H} {E : e_S} {n c S : Nat} {Q : List k_K2} (hs : c_sE a h E n Q S) (hc : c < 1331000000000) (hlim : e_lim E) : k_ctr (tX8_keyFor G l) [vR (some (a + 1)), vJ (lN c)] h (fun h' v => ∃ k S', v = some k ∧ c_sE a h' (m_ins c E.1, E.2) n Q S' ∧ S ≤ S' ∧ k_mo a [6, 7, 11] (c_A5 a) (S' - S) h h' ∧ ∀ c0 q0, c0 < 2 ^ 62 → c_pin a h c0 q0 → c_pin a h' c0 q0) := by
  obtain ⟨KS, L, WS, z, st, r, q, e⟩ := hs
  obtain ⟨b1, b2, b3, b4⟩ := sE_lim st r q.2 hlim (e_le_refl E)
  obtain ⟨h', v, t, k, rfl, st', hm, mv⟩ := c_S_keyFor ok st hc (by omega)
  have hl := c_ins_le c k KS
  exact ⟨h', _, t, k, _, rfl, ⟨_, L, WS, z, st', rE_ins r b4, ⟨fun y hy => c_ins_mem (q.1 y hy), q.2⟩, rfl⟩, by omega, mv_mono mv (fun _ h => by cases h) (fun p h => Or.inl h) (by omega), fun c0 q0 h0 hp => (pin_st st' h0).mpr (c_ins_mem ((pin_st st h0).mp hp))⟩
theorem C_keepP (ok : k_ok G l) {a t N w c : Nat} {B : Nat × Nat} {h : k_H} {M : s_M} {k v : Int32} (W : c_W a B h M N w) (ht : t < 4) (hb : (g_X M t).1.1 = true) (hk : k = 0 ∨ k = 1 ∨ k = 2 ∨ k = 3 ∨ k = 4 ∨ k = 5) (hc : c < 1331000000000) (hlim : e_lim (g_E M)) (hl : (g_X M t).2.1.length + w ≤ 13300) :
    k_ctv (tX11_keep G l) [vR (some a), vR (some (a + c_T t)), vI k, vJ (lN c), vI v] h (fun h' => c_W a B h' (g_kc M t k c v 0) (N + 1) w ∧ (∀ c0 q0, c0 < 2 ^ 62 → c_pin a h c0 q0 → c_pin a h' c0 q0) ∧ ∀ (ys : List Nat) (cap : Nat), h.1 (a + 12) = some (k_l ys cap) → h'.1 (a + 12) = some (k_l ys cap)) := by
  obtain ⟨Q, S, PS, s, r, p, co⟩ := W
  obtain ⟨r1, r2, r3, r4, r5, r6, r7⟩ := id r
  obtain ⟨f0, f1, f2, f3, f4, f5, o11⟩ := sE_obj s
  obtain ⟨n9, E9, Es, Ein⟩ := sE_n s
  obtain ⟨k6, k66, k7⟩ := kind6 hk
  refine k_ctv_of (eX11_keep ok.2 (bX11_keep_0 r3 rfl (k_is_o o11) (c_E_keyForP ok s hc hlim) ?_))
  rintro h1 _ ⟨q, S1, rfl, s1, hS, m1, pn1⟩
  have q1 := rs_sto r s m1
  have co1 := co_mo co m1
  obtain ⟨r11, -⟩ := id q1
  obtain ⟨kept, o1, -⟩ := tx_obj r11 ht
  refine bX11_keep_8 (k_is_o o1) (c_X_keepKey ok (k := k) (v := v) r11 ht hb k7 ⟨by show c < c + 1; omega, by show c + 1 ≤ _; omega, Or.inl (by show ¬ 1 < c + 1 - c; omega), fun z => absurd z k66, fun z => absurd z k66⟩ hl) ?_
  rintro h2 ⟨x2, m2⟩
  have ec : m_ck (g_ser M + 1, k, c, c + 1, v, 0) = k := m_ck_kc _ (fun z => k66 z.1)
  have eE : g_E (g_kp M t (g_ser M + 1, k, c, c + 1, v, 0)) = (m_ins c (g_E M).1, (g_E M).2) := by
    show ((if m_ck (g_ser M + 1, k, c, c + 1, v, 0) < 6 then m_ins c (g_E M).1 else (g_E M).1), (g_E M).2) = _
    rw [ec, if_pos k6]
  obtain ⟨s2, q2⟩ := rs_tx (M' := g_kp M t (g_ser M + 1, k, c, c + 1, v, 0)) s1 q1 ht m2 (by simp) x2 ⟨rfl, rfl, rfl, rfl, rfl, rfl⟩
  refine bX11_keep_17 ⟨rfl, ⟨Q, S1, PS, by unfold g_kc; rw [eE]; exact s2, q2, ⟨p.1, by unfold g_kc; rw [V_kp Es Ein]; exact p.2⟩, co_le (co_mo co1 m2) (by omega)⟩, fun c0 q0 h0 hp => pin_fr (pn1 c0 q0 h0 hp) m2 (by simp) (tx_nA ht 2 (by omega)) (fun q fs hq => tx_nO r11 ht q 7 fs hq (by decide)), fun ys cap hy => ?_⟩
  exact m2.1 _ _ (m1.1 _ _ hy (fun z => by rcases z with z | z | z | z <;> omega) (fun ci fs e => by cases e)) (tx_nA ht 12 (by omega)) (fun ci fs e => by cases e)
theorem C_takeVersions (ok : k_ok G l) {a t N w cnt : Nat} {B : Nat × Nat} {h : k_H} {M : s_M} {n : Int32} (W : c_W a B h M N w) (ht : t < 4) (hok : sv_ok M t) (hn : s_na n) (SB : sv_B M t 4094 11999 (2 ^ 30)) (hw : w ≤ 8000) (hlen : (g_X M t).2.1.length + (sv_seen M t n).length ≤ 4094) (hcnt : (g_X M t).2.1.countP (fun x => decide (x.2.1 = 6)) ≤ cnt) :
    k_ctv (tX11_takeAwayVersions G l) [vR (some a), vR (some (a + c_T t)), vI n] h (fun h' => c_W a B h' (sv_take M t n) (N + (sv_seen M t n).length) (w + cnt)) := by
  obtain ⟨k1, k2, k3, k4, k5, k6⟩ := id hok
  have n4 : s_na (-4) := na_m6.2.2.2.1
  have n10 : s_na 10000 := na_m6.2.2.2.2.2.2.2
  obtain ⟨hl1, hl2, hl3, hl4⟩ := s_hi_la n4 n10
  have ehi : s_la (-4) 10000 + 1 = s_hi (-4) 10000 := by decide
  have hlim := ok_lim hok SB (by omega)
  have hwc := W_wc W ht k1
  refine k_ctv_of (eX11_takeAwayVersions ok.2 (bX11_takeAwayVersions_0 (c_X11_lowOf ok n4 n10) ?_))
  rintro _ _ ⟨hh, rfl⟩
  rw [hh]
  refine bX11_takeAwayVersions_10 (c_X11_highOf ok n4 n10) ?_
  rintro _ _ ⟨hh, rfl⟩
  rw [hh]
  obtain ⟨Q, S, PS, s, r, p, co⟩ := id W
  have hn9 := (sE_n s).1
  refine bX11_takeAwayVersions_18 (k_is_o r.2.2.1) (c_listSeen ok s r co ht k1 (by omega) (by omega) (by omega) hlim k3) ?_
  rintro h1 ⟨s1, q1, co1, X, cap, l12, eX, hX⟩
  have W1 : c_W a B h1 M N w := ⟨Q, S, PS, s1, q1, p, co1⟩
  have pins : ∀ y ∈ X, y.1 < 1331000000000 ∧ c_pin a h1 y.1 y.2 := fun y hy => by
    obtain ⟨z1, ⟨xs, c2, z2, z3⟩, f, z4⟩ := hX y hy
    exact ⟨z1, xs, c2, z2, z3, f, z4⟩
  have hXl : X.length ≤ 12000 := by
    have := congrArg List.length eX
    rw [List.length_map, List.length_map] at this
    rw [this]
    exact Nat.le_trans (List.length_filter_le _ _) hlim.1
  have eseen : (X.filter (fun y => decide (s_no y.1 2 = n))).map (fun x => x.1) = (sv_seen M t n).map (fun x => x.1) := by
    unfold sv_seen
    rw [ehi]
    have f1 : ∀ Z : List k_K2, (Z.filter (fun y => decide (s_no y.1 2 = n))).map (fun x => x.1) = (Z.map (fun x => x.1)).filter (fun c => decide (s_no c 2 = n)) := fun Z => by
      rw [List.filter_map]; rfl
    rw [f1, f1, eX]
  have efin : g_fg (g_cls t (X.filter (fun y => decide (s_no y.1 2 = n))) M) t (s_cd (-4) 0 n) = sv_take M t n := by
    rw [fg_cls, fg_sdr hn hwc k6, cls_codes _ eseen]
    unfold sv_take
    rw [seen_sdr k6]
  have elen : (X.filter (fun y => decide (s_no y.1 2 = n))).length = (sv_seen M t n).length := by
    have := congrArg List.length eseen
    rw [List.length_map, List.length_map] at this
    exact this
  refine bX11_takeAwayVersions_21 ?_
  have key : ∀ (todo pre : List k_K2) (hh : k_H), X = pre ++ todo → c_W a B hh (g_cls t (pre.filter (fun y => decide (s_no y.1 2 = n))) M) (N + (pre.filter (fun y => decide (s_no y.1 2 = n))).length) w → sv_ok (g_cls t (pre.filter (fun y => decide (s_no y.1 2 = n))) M) t → hh.1 (a + 12) = some (k_l (X.map (fun x => x.2)) cap) → (∀ y ∈ X, c_pin a hh y.1 y.2) →
      k_X (jX11_takeAwayVersions G l h) hh 23 [(0, vR (some a)), (1, vR (some (a + c_T t))), (2, vI n), (3, vI (nI pre.length))] [] (q_v (fun h' => c_W a B h' (sv_take M t n) (N + (sv_seen M t n).length) (w + cnt))) := by
    intro todo
    induction todo with
    | nil =>
      intro pre hh hp W2 ok2 e12 pn
      rw [List.append_nil] at hp
      have hpl : X.length = pre.length := by rw [hp]
      obtain ⟨o14, -⟩ := W_ob W2
      refine bX11_takeAwayVersions_23 o14 rfl (Or.inr ⟨rfl, _, _, e12⟩) (c_size ok e12) ?_
      rintro _ _ ⟨hh2, rfl⟩
      rw [hh2, List.length_map]
      refine bX11_takeAwayVersions_31 (fun _ => ?_) (fun c => absurd (nI_le (Nat.le_of_eq hpl) (by omega)) c)
      rw [← hp] at W2 ok2
      rw [elen] at W2
      have n0 : s_na 0 := na_100 (k := 0) (by omega)
      refine bX11_takeAwayVersions_75 (c_X11_codeOf ok n4 n0 hn) ?_
      rintro _ _ ⟨hh2, rfl⟩
      rw [hh2]
      obtain ⟨Q, S, PS, s, r, p, co⟩ := id W2
      obtain ⟨kept, o12, -⟩ := tx_obj r.1 ht
      have hlen2 : (g_X (g_cls t (X.filter (fun y => decide (s_no y.1 2 = n))) M) t).2.1.length ≤ 4094 := by
        rw [g_cls_len, elen]; exact hlen
      refine bX11_takeAwayVersions_83 (k_is_o o12) (c_X_forget ok r.1 ht ok2.1 (s_cd_lt n4 n0 hn) (by omega)) ?_
      rintro h5 ⟨x5, m5⟩
      have hc2 : (g_X (g_cls t (X.filter (fun y => decide (s_no y.1 2 = n))) M) t).2.1.countP (fun x => decide (x.2.1 = 6) && decide (x.2.2.1 = s_cd (-4) 0 n)) ≤ cnt := by
        refine Nat.le_trans ?_ hcnt
        refine Nat.le_trans (List.countP_mono_left (q := fun x => decide (x.2.1 = 6)) (fun x _ hx => by simp at hx ⊢; exact hx.1)) ?_
        have : ∀ (Z : List k_K2) (M : s_M), (g_X (g_cls t Z M) t).2.1.countP (fun x => decide (x.2.1 = 6)) = (g_X M t).2.1.countP (fun x => decide (x.2.1 = 6)) := by
          intro Z
          induction Z with
          | nil => exact fun _ => rfl
          | cons z Z ihz =>
            intro M
            show (g_X (g_cls t Z (g_kc M t 1 z.1 0 0)) t).2.1.countP _ = _
            rw [ihz, g_kc_X, List.countP_append]
            rfl
        rw [this]
        exact Nat.le_refl _
      obtain ⟨s5, q5⟩ := rs_tx (M' := g_fg (g_cls t (X.filter (fun y => decide (s_no y.1 2 = n))) M) t (s_cd (-4) 0 n)) s r ht m5 (by simp) x5 ⟨rfl, rfl, rfl, rfl, rfl, rfl⟩
      have W5 : c_W a B h5 (g_fg (g_cls t (X.filter (fun y => decide (s_no y.1 2 = n))) M) t (s_cd (-4) 0 n)) (N + (sv_seen M t n).length) _ := ⟨Q, S, PS, s5, q5, p, co_le (co_mo co m5) (Nat.le_refl _)⟩
      rw [efin] at W5
      exact bX11_takeAwayVersions_86 ⟨rfl, W_lew W5 (by omega)⟩
    | cons y todo ih =>
      intro pre hh hp W2 ok2 e12 pn
      have hlt : pre.length < X.length := by rw [hp, List.length_append, List.length_cons]; omega
      have hy : (X.map (fun x => x.2))[pre.length]? = some y.2 := by rw [hp]; simp
      have hym : y ∈ X := by rw [hp]; simp
      obtain ⟨o14, -⟩ := W_ob W2
      obtain ⟨f, oy⟩ := pin_o (pn y hym)
      have hyc := (pins y hym).1
      refine bX11_takeAwayVersions_23 o14 rfl (Or.inr ⟨rfl, _, _, e12⟩) (c_size ok e12) ?_
      rintro _ _ ⟨hh2, rfl⟩
      rw [hh2, List.length_map]
      refine bX11_takeAwayVersions_31 (fun c => absurd c (nI_ge hlt (by omega))) (fun _ => ?_)
      refine bX11_takeAwayVersions_34 o14 rfl (Or.inr ⟨rfl, _, _, e12⟩) (c_get ok e12 hy) ?_
      rintro _ _ ⟨hh2, rfl⟩
      rw [hh2]
      refine bX11_takeAwayVersions_42 oy rfl (c_X11_numberOf ok hyc) ?_
      rintro _ _ ⟨hh2, rfl⟩
      rw [hh2]
      have es : s_pl 2 = 2 := by decide
      rw [es]
      refine bX11_takeAwayVersions_56 (fun c => ?_) (fun c => ?_)
      · refine bX11_takeAwayVersions_69 ?_
        rw [nI_1]
        have := ih (pre ++ [y]) hh (by rw [hp]; simp)
        rw [List.length_append, List.length_singleton, List.filter_append, List.filter_cons_of_neg (by simp [c]), List.filter_nil, List.append_nil] at this
        exact this W2 ok2 e12 pn
      · have hpf : (pre.filter (fun y => decide (s_no y.1 2 = n))).length ≤ (sv_seen M t n).length := by
          rw [← elen, hp, List.filter_append, List.length_append]
          omega
        have hpf2 : (pre.filter (fun y => decide (s_no y.1 2 = n))).length + 1 ≤ (sv_seen M t n).length := by
          rw [← elen, hp, List.filter_append, List.length_append, List.filter_cons_of_pos (by simp [c]), List.length_cons]
          omega
        have hlenk : (g_X (g_cls t (pre.filter (fun y => decide (s_no y.1 2 = n))) M) t).2.1.length + w ≤ 13300 := by
          rw [g_cls_len]; omega
        have hlimk : e_lim (g_E (g_cls t (pre.filter (fun y => decide (s_no y.1 2 = n))) M)) := by
          rw [cls_E _ M (sE_n s).2.2.1 (fun z hz => ?_)]
          · exact hlim
          · have hz2 : z ∈ X := by rw [hp]; exact List.mem_append_left _ (List.mem_filter.mp hz).1
            have hz3 : z.1 ∈ (g_rng M t (s_lo (-4) 10000) (s_hi (-4) 10000)).map (fun x => x.1) := by rw [← eX]; exact List.mem_map.mpr ⟨z, hz2, rfl⟩
            obtain ⟨u, hu, eu⟩ := List.mem_map.mp hz3
            exact ⟨u.2, by rw [← eu]; exact (r_flt_of hu).1⟩
        refine bX11_takeAwayVersions_60 (k_is_o o14) (C_keepP ok W2 ht ok2.1 (Or.inr (Or.inl rfl)) hyc hlimk hlenk) ?_
        rintro h3 ⟨W3, pn3, l3⟩
        refine bX11_takeAwayVersions_69 ?_
        rw [nI_1]
        have := ih (pre ++ [y]) h3 (by rw [hp]; simp)
        rw [List.length_append, List.length_singleton, List.filter_append, List.filter_cons_of_pos (by simp [c]), List.filter_nil, List.length_append, List.length_singleton] at this
        have ecls : g_cls t (pre.filter (fun y => decide (s_no y.1 2 = n)) ++ [y]) M = g_kc (g_cls t (pre.filter (fun y => decide (s_no y.1 2 = n))) M) t 1 y.1 0 0 := by
          unfold g_cls
          rw [List.foldl_append]
          rfl
        rw [ecls] at this
        exact this W3 (ok_kc ok2 (Or.inr (Or.inr (Or.inl rfl)))) (l3 _ _ e12) (fun z hz => pn3 _ _ (by have := (pins z hz).1; omega) (pn z hz))
  exact key X [] h1 rfl W1 hok l12 (fun y hy => (pins y hy).2)
end CSV
