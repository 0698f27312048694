/-! THE CLASS SAVES AND ERASES RECORDS -/
def gv1 (v i : Int32) (g : Bool) : Int32 := if g = true then v ||| (1 <<< (i &&& 31)) else v
def gv (g0 g1 g2 : Bool) : Int32 := gv1 (gv1 (gv1 0 0 g0) 1 g1) 2 g2
theorem gv_bits (g0 g1 g2 : Bool) : ((gv g0 g1 g2 &&& (1 <<< ((0 : Int32) &&& 31))) = 0 ↔ g0 = false) ∧ ((gv g0 g1 g2 &&& (1 <<< ((1 : Int32) &&& 31))) = 0 ↔ g1 = false) ∧ ((gv g0 g1 g2 &&& (1 <<< ((2 : Int32) &&& 31))) = 0 ↔ g2 = false) := by
  cases g0 <;> cases g1 <;> cases g2 <;> decide
theorem goes_eq {st n : Int32} (h0 : ¬ n < 0) (h9 : ¬ 99 < n) : ((if st = -2147483648 then (1000 : Int32) else st) < n) ↔ s_goes st n = false := by
  unfold s_goes
  by_cases c : st = -2147483648
  · rw [if_pos c, decide_eq_true c, Bool.true_or]
    constructor
    · intro h
      have h1 := Int32.lt_iff_toInt_lt.mp h
      have h2 : ¬ (99 : Int32).toInt < n.toInt := fun z => h9 (Int32.lt_iff_toInt_lt.mpr z)
      have e1 : (1000 : Int32).toInt = 1000 := by decide
      have e2 : (99 : Int32).toInt = 99 := by decide
      omega
    · intro h; cases h
  · rw [if_neg c, decide_eq_false c, Bool.false_or]
    by_cases d : st = -1000
    · rw [decide_eq_false (fun z => z d), Bool.false_and]
      refine ⟨fun _ => rfl, fun _ => ?_⟩
      rw [d]
      have h2 : ¬ n.toInt < (0 : Int32).toInt := fun z => h0 (Int32.lt_iff_toInt_lt.mpr z)
      have e1 : (-1000 : Int32).toInt = -1000 := by decide
      have e2 : (0 : Int32).toInt = 0 := by decide
      exact Int32.lt_iff_toInt_lt.mpr (by omega)
    · rw [decide_eq_true d, Bool.true_and, decide_eq_false_iff_not]
      exact Int32.not_le.symm
def sv_k3 (M : s_M) (t : Nat) : s_M := g_rk (g_rk (g_rk M t (sv_co 0)) t (sv_co 1)) t (sv_co 2)
section CS2
variable {G : k_G} {l : Launch}
theorem W_rk (ok : k_ok G l) {a t N w c : Nat} {B : Nat × Nat} {h : k_H} {M : s_M} (W : c_W a B h M N w) (ht : t < 4) (hok : sv_ok M t) (hc : c < 2 ^ 60) (hl : (g_X M t).2.2.length < 2048) :
    k_cti (tX11_readCounting G l) [vR (some a), vR (some (a + c_T t)), vJ (lN c)] h (fun h' v => v = o_told (g_see M t c).1 ∧ c_W a B h' (g_rk M t c) (N + 1) w) := by
  obtain ⟨Q, S, PS, s, r, p, co⟩ := W
  have hn9 := (sE_n s).1
  have hra := hok.2.1
  obtain ⟨h', v, tr, e, s', r', co'⟩ := c_readCounting ok s r co ht hok.1 hc (by omega) hl
  exact ⟨h', v, tr, e, Q, S, PS, s', r', p, co'⟩
theorem C_readIndexes (ok : k_ok G l) {a t N w : Nat} {B : Nat × Nat} {h : k_H} {M : s_M} {n : Int32} (W : c_W a B h M N w) (ht : t < 4) (hok : sv_ok M t) (h0 : ¬ n < 0) (h9 : ¬ 99 < n) (hl : (g_X M t).2.2.length + 4 ≤ 2048) :
    k_cti (tX11_readIndexes G l) [vR (some a), vR (some (a + c_T t)), vI n] h (fun h' v => v = gv (sv_go M t 0 n) (sv_go M t 1 n) (sv_go M t 2 n) ∧ c_W a B h' (sv_k3 M t) (N + 3) w) := by
  refine k_cti_of (eX11_readIndexes ok.2 (bX11_readIndexes_0 ?_))
  have step : ∀ (i v : Int32) (hh : k_H) (M' : s_M) (N' : Nat), s_na i → ¬ 3 ≤ i → c_W a B hh M' N' w → sv_ok M' t → (g_X M' t).2.2.length < 2048 → (∀ h2, c_W a B h2 (g_rk M' t (sv_co i)) (N' + 1) w → k_X (jX11_readIndexes G l h) h2 5 [(0, vR (some a)), (1, vR (some (a + c_T t))), (2, vI n), (3, vI (gv1 v i (sv_go M' t i n))), (4, vI (i + 1))] [] (q_i (fun h' v => v = gv (sv_go M t 0 n) (sv_go M t 1 n) (sv_go M t 2 n) ∧ c_W a B h' (sv_k3 M t) (N + 3) w))) →
      k_X (jX11_readIndexes G l h) hh 5 [(0, vR (some a)), (1, vR (some (a + c_T t))), (2, vI n), (3, vI v), (4, vI i)] [] (q_i (fun h' v => v = gv (sv_go M t 0 n) (sv_go M t 1 n) (sv_go M t 2 n) ∧ c_W a B h' (sv_k3 M t) (N + 3) w)) := by
    intro i v hh M' N' hi hi3 W1 ok1 hl1 K
    refine bX11_readIndexes_5 (fun c => absurd c hi3) (fun _ => bX11_readIndexes_11 (c_X11_codeOf_ ok na_m6.1 hi) ?_)
    rintro _ _ ⟨hh2, rfl⟩
    rw [hh2]
    obtain ⟨o14, -⟩ := W_ob W1
    have hcd := s_cd_lt na_m6.1 hi na_m6.2.2.2.2.2.2.2
    refine bX11_readIndexes_20 (k_is_o o14) (W_rk ok W1 ht ok1 (by omega) hl1) ?_
    rintro h2 _ ⟨rfl, W2⟩
    refine bX11_readIndexes_23 (c_X11_indexGoesTo ok) ?_
    rintro _ _ ⟨hh2, rfl⟩
    rw [hh2]
    have hg := goes_eq (st := o_told (g_see M' t (s_cd (-6) i 10000)).1) h0 h9
    have hK := K h2 W2
    have ego : sv_go M' t i n = s_goes (o_told (g_see M' t (s_cd (-6) i 10000)).1) n := rfl
    refine bX11_readIndexes_26 (fun c => bX11_readIndexes_37 ?_) (fun c => bX11_readIndexes_30 (bX11_readIndexes_37 ?_))
    · rw [ego, hg.mp c] at hK
      exact hK
    · have : s_goes (o_told (g_see M' t (s_cd (-6) i 10000)).1) n = true := by
        cases hgo : s_goes (o_told (g_see M' t (s_cd (-6) i 10000)).1) n with
        | true => rfl
        | false => exact absurd (hg.mpr hgo) c
      rw [ego, this] at hK
      exact hK
  have l1 := g_rk_len M t (sv_co 0)
  have l2 := g_rk_len (g_rk M t (sv_co 0)) t (sv_co 1)
  refine step 0 0 h M N (na_100 (k := 0) (by omega)) (by decide) W hok (by omega) (fun h1 W1 => ?_)
  rw [show (0 + 1 : Int32) = 1 from by decide]
  refine step 1 _ h1 _ _ (na_100 (k := 1) (by omega)) (by decide) W1 (ok_rk hok) (by omega) (fun h2 W2 => ?_)
  rw [show (1 + 1 : Int32) = 2 from by decide]
  refine step 2 _ h2 _ _ (na_100 (k := 2) (by omega)) (by decide) W2 (ok_rk (ok_rk hok)) (by omega) (fun h3 W3 => ?_)
  rw [show (2 + 1 : Int32) = 3 from by decide]
  refine bX11_readIndexes_5 (fun _ => bX11_readIndexes_43 ⟨_, rfl, ?_, W3⟩) (fun c => absurd (by decide) c)
  have e1 : sv_go (g_rk M t (sv_co 0)) t 1 n = sv_go M t 1 n := by unfold sv_go; rw [g_rk_see]
  have e2 : sv_go (g_rk (g_rk M t (sv_co 0)) t (sv_co 1)) t 2 n = sv_go M t 2 n := by unfold sv_go; rw [g_rk_see, g_rk_see]
  rw [e1, e2]
  rfl
theorem W_kc (ok : k_ok G l) {a t N w c b d : Nat} {B : Nat × Nat} {h : k_H} {M : s_M} {k v : Int32} (W : c_W a B h M N w) (ht : t < 4) (hok : sv_ok M t) (hk : k = 0 ∨ k = 1 ∨ k = 2) (hc : c < 1331000000000) (SB : sv_B M t b 12000 d) (hb : b + w ≤ 13300) :
    k_ctv (tX11_keep G l) [vR (some a), vR (some (a + c_T t)), vI k, vJ (lN c), vI v] h (fun h' => c_W a B h' (g_kc M t k c v 0) (N + 1) w) :=
  C_keep ok W ht hok.1 (by rcases hk with e | e | e; exact Or.inl e; exact Or.inr (Or.inl e); exact Or.inr (Or.inr (Or.inl e))) hc (ok_lim hok SB (Nat.le_refl _)) (by have := SB.1; omega)
theorem C_takeAway0 (ok : k_ok G l) {a t N w b d : Nat} {B : Nat × Nat} {h : k_H} {M : s_M} {n old : Int32} (W : c_W a B h M N w) (ht : t < 4) (hok : sv_ok M t) (hn : s_na n) (ho : s_na old) (SB : sv_B M t b 12000 d) (hb : b + w ≤ 13300) :
    k_ctv (tX11_takeAway G l) [vR (some a), vR (some (a + c_T t)), vI 0, vI n, vI old] h (fun h' => c_W a B h' (g_kc M t 1 (s_cd (-2) old n) 0 0) (N + 1) w) := by
  obtain ⟨o14, -⟩ := W_ob W
  refine k_ctv_of (eX11_takeAway ok.2 (bX11_takeAway_0 (fun c => absurd rfl c) (fun _ => bX11_takeAway_4 (c_X11_codeOf ok na_m6.2.2.2.2.2.1 ho hn) ?_)))
  rintro _ _ ⟨hh, rfl⟩
  rw [hh]
  refine bX11_takeAway_15 (k_is_o o14) (W_kc ok W ht hok (Or.inr (Or.inl rfl)) (s_cd_lt na_m6.2.2.2.2.2.1 ho hn) SB hb) ?_
  rintro h1 W1
  exact bX11_takeAway_19 (bX11_takeAway_50 ⟨rfl, W1⟩)
theorem C_takeAway1 (ok : k_ok G l) {a t N w b d : Nat} {B : Nat × Nat} {h : k_H} {M : s_M} {n old : Int32} (W : c_W a B h M N w) (ht : t < 4) (hok : sv_ok M t) (ho : s_na old) (SB : sv_B M t b 12000 d) (hb : b + w ≤ 13300) :
    k_ctv (tX11_takeAway G l) [vR (some a), vR (some (a + c_T t)), vI 1, vI n, vI old] h (fun h' => c_W a B h' (g_kc M t 2 (s_cd (-3) old 10000) (-1) 0) (N + 1) w) := by
  obtain ⟨o14, -⟩ := W_ob W
  refine k_ctv_of (eX11_takeAway ok.2 (bX11_takeAway_0 (fun _ => bX11_takeAway_22 (fun c => absurd rfl c) (fun _ => bX11_takeAway_27 (c_X11_codeOf_ ok na_m6.2.2.2.2.1 ho) ?_)) (fun c => absurd c (by decide))))
  rintro _ _ ⟨hh, rfl⟩
  rw [hh]
  refine bX11_takeAway_37 (k_is_o o14) (W_kc ok W ht hok (Or.inr (Or.inr rfl)) (s_cd_lt na_m6.2.2.2.2.1 ho na_m6.2.2.2.2.2.2.2) SB hb) ?_
  rintro h1 W1
  exact bX11_takeAway_41 (bX11_takeAway_50 ⟨rfl, W1⟩)
theorem C_takeAway2 (ok : k_ok G l) {a t N w cnt : Nat} {B : Nat × Nat} {h : k_H} {M : s_M} {n old : Int32} (W : c_W a B h M N w) (ht : t < 4) (hok : sv_ok M t) (hn : s_na n) (SB : sv_B M t 4094 11999 (2 ^ 30)) (hw : w ≤ 8000) (hlen : (g_X M t).2.1.length + (sv_seen M t n).length ≤ 4094) (hcnt : (g_X M t).2.1.countP (fun x => decide (x.2.1 = 6)) ≤ cnt) :
    k_ctv (tX11_takeAway G l) [vR (some a), vR (some (a + c_T t)), vI 2, vI n, vI old] h (fun h' => c_W a B h' (sv_take M t n) (N + (sv_seen M t n).length) (w + cnt)) := by
  obtain ⟨o14, -⟩ := W_ob W
  refine k_ctv_of (eX11_takeAway ok.2 (bX11_takeAway_0 (fun _ => bX11_takeAway_22 (fun _ => bX11_takeAway_44 (k_is_o o14) (C_takeVersions ok W ht hok hn SB hw hlen hcnt) ?_) (fun c => absurd c (by decide))) (fun c => absurd c (by decide))))
  rintro h1 W1
  exact bX11_takeAway_50 ⟨rfl, W1⟩
theorem C_putThere0 (ok : k_ok G l) {a t N w b d : Nat} {B : Nat × Nat} {h : k_H} {M : s_M} {n field : Int32} (W : c_W a B h M N w) (ht : t < 4) (hok : sv_ok M t) (hn : s_na n) (ho : s_na field) (SB : sv_B M t b 12000 d) (hb : b + w ≤ 13300) :
    k_ctv (tX11_putThere G l) [vR (some a), vR (some (a + c_T t)), vI 0, vI n, vI field] h (fun h' => c_W a B h' (g_kc M t 0 (s_cd (-2) field n) 0 0) (N + 1) w) := by
  obtain ⟨o14, -⟩ := W_ob W
  refine k_ctv_of (eX11_putThere ok.2 (bX11_putThere_0 (fun c => absurd rfl c) (fun _ => bX11_putThere_4 (c_X11_codeOf ok na_m6.2.2.2.2.2.1 ho hn) ?_)))
  rintro _ _ ⟨hh, rfl⟩
  rw [hh]
  refine bX11_putThere_15 (k_is_o o14) (W_kc ok W ht hok (Or.inl rfl) (s_cd_lt na_m6.2.2.2.2.2.1 ho hn) SB hb) ?_
  rintro h1 W1
  exact bX11_putThere_19 (bX11_putThere_58 ⟨rfl, W1⟩)
theorem C_putThere1 (ok : k_ok G l) {a t N w b d : Nat} {B : Nat × Nat} {h : k_H} {M : s_M} {n field : Int32} (W : c_W a B h M N w) (ht : t < 4) (hok : sv_ok M t) (ho : s_na field) (SB : sv_B M t b 12000 d) (hb : b + w ≤ 13300) :
    k_ctv (tX11_putThere G l) [vR (some a), vR (some (a + c_T t)), vI 1, vI n, vI field] h (fun h' => c_W a B h' (g_kc M t 2 (s_cd (-3) field 10000) 1 0) (N + 1) w) := by
  obtain ⟨o14, -⟩ := W_ob W
  refine k_ctv_of (eX11_putThere ok.2 (bX11_putThere_0 (fun _ => bX11_putThere_22 (fun c => absurd rfl c) (fun _ => bX11_putThere_27 (c_X11_codeOf_ ok na_m6.2.2.2.2.1 ho) ?_)) (fun c => absurd c (by decide))))
  rintro _ _ ⟨hh, rfl⟩
  rw [hh]
  refine bX11_putThere_37 (k_is_o o14) (W_kc ok W ht hok (Or.inr (Or.inr rfl)) (s_cd_lt na_m6.2.2.2.2.1 ho na_m6.2.2.2.2.2.2.2) SB hb) ?_
  rintro h1 W1
  exact bX11_putThere_41 (bX11_putThere_58 ⟨rfl, W1⟩)
theorem C_putThere2 (ok : k_ok G l) {a t N w : Nat} {B : Nat × Nat} {h : k_H} {M : s_M} {n field : Int32} (W : c_W a B h M N w) (ht : t < 4) (hb : (g_X M t).1.1 = true) (hn : s_na n) (hl : (g_X M t).2.1.length + w ≤ 13300) :
    k_ctv (tX11_putThere G l) [vR (some a), vR (some (a + c_T t)), vI 2, vI n, vI field] h (fun h' => c_W a B h' (g_kc M t 6 (s_cd (-4) 0 n) field 1) (N + 1) w) := by
  obtain ⟨o14, -⟩ := W_ob W
  have n4 : s_na (-4) := na_m6.2.2.2.1
  have n0 : s_na 0 := na_100 (k := 0) (by omega)
  obtain ⟨fs, o12, -⟩ := W_obj W ht
  have hdiv : s_cd (-4) 0 n / 121000000 = 996 := by rw [s_cd_div n0 hn]; decide
  refine k_ctv_of (eX11_putThere ok.2 (bX11_putThere_0 (fun _ => bX11_putThere_22 (fun _ => bX11_putThere_44 (c_X11_codeOf ok n4 n0 hn) ?_) (fun c => absurd c (by decide))) (fun c => absurd c (by decide))))
  rintro _ _ ⟨hh, rfl⟩
  rw [hh]
  refine bX11_putThere_52 (k_is_o o12) (C_keepStamped ok W ht hb (s_cd_lt n4 n0 hn) ?_ (fun _ => by rw [s_no_2 n4 n0 hn]) hl) ?_
  · rw [m_ck_k8 _ hdiv]
    rfl
  rintro h1 W1
  exact bX11_putThere_58 ⟨rfl, W1⟩
/-- a turn of the loop over the indexes -/
theorem wr_step {h0 : k_H} {a t : Nat} {n field v old i : Int32} {g had saves : Bool} {Q : k_H → k_R → Prop} {P1 P2 P3 : k_H → Prop} (hi : ¬ 3 ≤ i) (hg : (v &&& (1 <<< (i &&& 31))) = 0 ↔ g = false) (hh : old = -2147483648 ↔ had = false) (hs : field = -2147483648 ↔ saves = false)
    (o1 : ∀ hh, P1 hh → k_is hh a 14) (o2 : ∀ hh, P2 hh → k_is hh a 14)
    (hTA : (g && had) = true → ∀ hh, P1 hh → k_ctv (tX11_takeAway G l) [vR (some a), vR (some (a + c_T t)), vI i, vI n, vI old] hh P2) (hTA0 : (g && had) = false → ∀ hh, P1 hh → P2 hh)
    (hPT : (g && saves) = true → ∀ hh, P2 hh → k_ctv (tX11_putThere G l) [vR (some a), vR (some (a + c_T t)), vI i, vI n, vI field] hh P3) (hPT0 : (g && saves) = false → ∀ hh, P2 hh → P3 hh)
    (K : ∀ hh, P3 hh → k_X (jX11_writeRecord G l h0) hh 39 [(0, vR (some a)), (1, vR (some (a + c_T t))), (2, vI n), (3, vI field), (4, vI v), (5, vI old), (6, vI (i + 1))] [] Q) :
    ∀ hh, P1 hh → k_X (jX11_writeRecord G l h0) hh 39 [(0, vR (some a)), (1, vR (some (a + c_T t))), (2, vI n), (3, vI field), (4, vI v), (5, vI old), (6, vI i)] [] Q := by
  intro h1 p1
  -- behind the taking away
  have mid : ∀ (h2 : k_H) (x : Int32), P2 h2 → (x = 0 ↔ g = false) → k_X (jX11_writeRecord G l h0) h2 84 [(0, vR (some a)), (1, vR (some (a + c_T t))), (2, vI n), (3, vI field), (4, vI v), (5, vI old), (6, vI i), (7, vI x)] [] Q := by
    intro h2 x p2 hx
    have out : (g && saves) = false → k_X (jX11_writeRecord G l h0) h2 104 [(0, vR (some a)), (1, vR (some (a + c_T t))), (2, vI n), (3, vI field), (4, vI v), (5, vI old), (6, vI i)] [] Q := fun hc => bX11_writeRecord_104 (K h2 (hPT0 hc h2 p2))
    refine bX11_writeRecord_84 (fun c => out ?_) (fun c => bX11_writeRecord_89 (fun d => out ?_) (fun d => ?_))
    · rw [hx.mp c, Bool.false_and]
    · rw [hs.mp d, Bool.and_false]
    · have hg1 : g = true := by cases g; exact absurd (hx.mpr rfl) c; rfl
      have hs1 : saves = true := by cases saves; exact absurd (hs.mpr rfl) d; rfl
      refine bX11_writeRecord_95 (o2 h2 p2) (hPT (by rw [hg1, hs1]; rfl) h2 p2) ?_
      rintro h3 p3
      exact bX11_writeRecord_104 (K h3 p3)
  have go : ∀ x : Int32, (x = 0 ↔ g = false) → k_X (jX11_writeRecord G l h0) h1 60 [(0, vR (some a)), (1, vR (some (a + c_T t))), (2, vI n), (3, vI field), (4, vI v), (5, vI old), (6, vI i)] [vI x] Q := by
    intro x hx
    refine bX11_writeRecord_60 (fun c => mid h1 x (hTA0 ?_ h1 p1) hx) (fun c => bX11_writeRecord_67 (fun d => mid h1 x (hTA0 ?_ h1 p1) hx) (fun d => ?_))
    · rw [hx.mp c, Bool.false_and]
    · rw [hh.mp d, Bool.and_false]
    · have hg1 : g = true := by cases g; exact absurd (hx.mpr rfl) c; rfl
      have hh1 : had = true := by cases had; exact absurd (hh.mpr rfl) d; rfl
      refine bX11_writeRecord_74 (o1 h1 p1) (hTA (by rw [hg1, hh1]; rfl) h1 p1) ?_
      rintro h2 p2
      exact mid h2 x p2 hx
  refine bX11_writeRecord_39 (fun c => absurd c hi) (fun _ => bX11_writeRecord_45 (fun c => bX11_writeRecord_59 (go 0 ?_)) (fun c => bX11_writeRecord_55 (go 1 ?_)))
  · exact ⟨fun _ => hg.mp c, fun _ => rfl⟩
  · refine ⟨fun z => absurd z (by decide), fun z => absurd (hg.mpr z) c⟩
end CS2
