/-! THE STATIC METHODS: numbers, keys, codes -/
theorem nB_no : s_nmB 10000 = false := by decide
section ST
variable {G : k_G} {l : Launch}
theorem c_X11_isNumber (ok : k_ok G l) {h : k_H} {x : Int32} : k_cti (tX11_isNumber G l) [vI x] h (fun h' v => h' = h ∧ v = kB (s_nmB x)) := by
  refine k_cti_of (eX11_isNumber ok.2 ?_)
  refine bX11_isNumber_0 (fun c1 => ?_) (fun c2 => ?_)
  · refine bX11_isNumber_18 ?_
    refine bX11_isNumber_19 (by first | exact Or.inl rfl | exact Or.inr rfl | exact kB_bl _) ?_
    exact ⟨_, rfl, rfl, by symm; simp_all [kB_0, kB_1, s_nmB]⟩
  · refine bX11_isNumber_7 (fun c3 => ?_) (fun c4 => ?_)
    · refine bX11_isNumber_18 ?_
      refine bX11_isNumber_19 (by first | exact Or.inl rfl | exact Or.inr rfl | exact kB_bl _) ?_
      exact ⟨_, rfl, rfl, by symm; simp_all [kB_0, kB_1, s_nmB]⟩
    · refine bX11_isNumber_14 ?_
      refine bX11_isNumber_19 (by first | exact Or.inl rfl | exact Or.inr rfl | exact kB_bl _) ?_
      exact ⟨_, rfl, rfl, by symm; simp_all [kB_0, kB_1, s_nmB]⟩
theorem c_X11_isKey (ok : k_ok G l) {h : k_H} {a b c : Int32} : k_cti (tX11_isKey G l) [vI a, vI b, vI c] h (fun h' v => h' = h ∧ v = kB (s_keyB a b c)) := by
  refine k_cti_of (eX11_isKey ok.2 ?_)
  refine bX11_isKey_0 (fun c1 => ?_) (fun c2 => ?_)
  · refine bX11_isKey_27 (c_X11_isNumber ok) ?_
    rintro h1 v ⟨rfl, rfl⟩
    refine bX11_isKey_31 (fun c3 => ?_) (fun c4 => ?_)
    · refine bX11_isKey_59 ?_
      refine bX11_isKey_60 (by first | exact Or.inl rfl | exact Or.inr rfl | exact kB_bl _) ?_
      exact ⟨_, rfl, rfl, by symm; simp_all [kB_0, kB_n0, kB_1, s_keyB, s_rngB, nB_no]⟩
    · refine bX11_isKey_34 (c_X11_isNumber ok) ?_
      rintro h1 v ⟨rfl, rfl⟩
      refine bX11_isKey_38 (fun c5 => ?_) (fun c6 => ?_)
      · refine bX11_isKey_59 ?_
        refine bX11_isKey_60 (by first | exact Or.inl rfl | exact Or.inr rfl | exact kB_bl _) ?_
        exact ⟨_, rfl, rfl, by symm; simp_all [kB_0, kB_n0, kB_1, s_keyB, s_rngB, nB_no]⟩
      · refine bX11_isKey_41 (fun c7 => ?_) (fun c8 => ?_)
        · refine bX11_isKey_55 ?_
          refine bX11_isKey_60 (by first | exact Or.inl rfl | exact Or.inr rfl | exact kB_bl _) ?_
          exact ⟨_, rfl, rfl, by symm; simp_all [kB_0, kB_n0, kB_1, s_keyB, s_rngB, nB_no]⟩
        · refine bX11_isKey_48 (c_X11_isNumber ok) ?_
          rintro h1 v ⟨rfl, rfl⟩
          refine bX11_isKey_52 (fun c9 => ?_) (fun c10 => ?_)
          · refine bX11_isKey_59 ?_
            refine bX11_isKey_60 (by first | exact Or.inl rfl | exact Or.inr rfl | exact kB_bl _) ?_
            exact ⟨_, rfl, rfl, by symm; simp_all [kB_0, kB_n0, kB_1, s_keyB, s_rngB, nB_no]⟩
          · refine bX11_isKey_55 ?_
            refine bX11_isKey_60 (by first | exact Or.inl rfl | exact Or.inr rfl | exact kB_bl _) ?_
            exact ⟨_, rfl, rfl, by symm; simp_all [kB_0, kB_n0, kB_1, s_keyB, s_rngB, nB_no]⟩
  · refine bX11_isKey_7 (c_X11_isNumber ok) ?_
    rintro h1 v ⟨rfl, rfl⟩
    refine bX11_isKey_11 (fun c11 => ?_) (fun c12 => ?_)
    · refine bX11_isKey_25 ?_
      refine bX11_isKey_26 (by first | exact Or.inl rfl | exact Or.inr rfl | exact kB_bl _) ?_
      exact ⟨_, rfl, rfl, by symm; simp_all [kB_0, kB_n0, kB_1, s_keyB, s_rngB, nB_no]⟩
    · refine bX11_isKey_14 (fun c13 => ?_) (fun c14 => ?_)
      · refine bX11_isKey_25 ?_
        refine bX11_isKey_26 (by first | exact Or.inl rfl | exact Or.inr rfl | exact kB_bl _) ?_
        exact ⟨_, rfl, rfl, by symm; simp_all [kB_0, kB_n0, kB_1, s_keyB, s_rngB, nB_no]⟩
      · refine bX11_isKey_21 ?_
        refine bX11_isKey_26 (by first | exact Or.inl rfl | exact Or.inr rfl | exact kB_bl _) ?_
        exact ⟨_, rfl, rfl, by symm; simp_all [kB_0, kB_n0, kB_1, s_keyB, s_rngB, nB_no]⟩
theorem c_X11_isRange (ok : k_ok G l) {h : k_H} {a b : Int32} : k_cti (tX11_isRange G l) [vI a, vI b] h (fun h' v => h' = h ∧ v = kB (s_rngB a b)) := by
  refine k_cti_of (eX11_isRange ok.2 ?_)
  refine bX11_isRange_0 (fun c1 => ?_) (fun c2 => ?_)
  · refine bX11_isRange_20 (c_X11_isNumber ok) ?_
    rintro h1 v ⟨rfl, rfl⟩
    refine bX11_isRange_24 (fun c3 => ?_) (fun c4 => ?_)
    · refine bX11_isRange_45 ?_
      refine bX11_isRange_46 (by first | exact Or.inl rfl | exact Or.inr rfl | exact kB_bl _) ?_
      exact ⟨_, rfl, rfl, by symm; simp_all [kB_0, kB_n0, kB_1, s_keyB, s_rngB, nB_no]⟩
    · refine bX11_isRange_27 (fun c5 => ?_) (fun c6 => ?_)
      · refine bX11_isRange_41 ?_
        refine bX11_isRange_46 (by first | exact Or.inl rfl | exact Or.inr rfl | exact kB_bl _) ?_
        exact ⟨_, rfl, rfl, by symm; simp_all [kB_0, kB_n0, kB_1, s_keyB, s_rngB, nB_no]⟩
      · refine bX11_isRange_34 (c_X11_isNumber ok) ?_
        rintro h1 v ⟨rfl, rfl⟩
        refine bX11_isRange_38 (fun c7 => ?_) (fun c8 => ?_)
        · refine bX11_isRange_45 ?_
          refine bX11_isRange_46 (by first | exact Or.inl rfl | exact Or.inr rfl | exact kB_bl _) ?_
          exact ⟨_, rfl, rfl, by symm; simp_all [kB_0, kB_n0, kB_1, s_keyB, s_rngB, nB_no]⟩
        · refine bX11_isRange_41 ?_
          refine bX11_isRange_46 (by first | exact Or.inl rfl | exact Or.inr rfl | exact kB_bl _) ?_
          exact ⟨_, rfl, rfl, by symm; simp_all [kB_0, kB_n0, kB_1, s_keyB, s_rngB, nB_no]⟩
  · refine bX11_isRange_7 (fun c9 => ?_) (fun c10 => ?_)
    · refine bX11_isRange_18 ?_
      refine bX11_isRange_19 (by first | exact Or.inl rfl | exact Or.inr rfl | exact kB_bl _) ?_
      exact ⟨_, rfl, rfl, by symm; simp_all [kB_0, kB_n0, kB_1, s_keyB, s_rngB, nB_no]⟩
    · refine bX11_isRange_14 ?_
      refine bX11_isRange_19 (by first | exact Or.inl rfl | exact Or.inr rfl | exact kB_bl _) ?_
      exact ⟨_, rfl, rfl, by symm; simp_all [kB_0, kB_n0, kB_1, s_keyB, s_rngB, nB_no]⟩
def s_last (b c : Int32) : Int32 := if b = 10000 then 0 else if c = 10000 then 1 else 2
theorem c_X11_lastPlace (ok : k_ok G l) {h : k_H} {b c : Int32} : k_cti (tX11_lastPlace G l) [vI b, vI c] h (fun h' v => h' = h ∧ v = s_last b c) := by
  refine k_cti_of (eX11_lastPlace ok.2 ?_)
  refine bX11_lastPlace_0 (fun c1 => ?_) (fun c2 => ?_)
  · refine bX11_lastPlace_9 (fun c3 => ?_) (fun c4 => ?_)
    · refine bX11_lastPlace_20 ?_
      refine bX11_lastPlace_21 ?_
      exact ⟨_, rfl, rfl, by simp_all [s_last]⟩
    · refine bX11_lastPlace_16 ?_
      refine bX11_lastPlace_21 ?_
      exact ⟨_, rfl, rfl, by simp_all [s_last]⟩
  · refine bX11_lastPlace_7 ?_
    exact ⟨_, rfl, rfl, by simp_all [s_last]⟩
theorem c_X11_digitOf (ok : k_ok G l) {h : k_H} {x : Int32} (hx : s_na x) : k_ctj (tX11_digitOf G l) [vI x] h (fun h' v => h' = h ∧ v = lN (s_dg x)) := by
  refine k_ctj_of (eX11_digitOf ok.2 ?_)
  refine bX11_digitOf_0 (fun c1 => ?_) (fun c2 => ?_)
  · refine bX11_digitOf_11 ?_
    refine bX11_digitOf_17 ?_
    first | (have c9 := c2; exact ⟨_, rfl, rfl, Eq.trans (b := lN 0) (by decide) (by rw [c9, s_dg_none])⟩) | exact ⟨_, rfl, rfl, lX_dg (hx.resolve_left c1)⟩
  · refine bX11_digitOf_7 ?_
    refine bX11_digitOf_17 ?_
    first | (have c9 := c2; exact ⟨_, rfl, rfl, Eq.trans (b := lN 0) (by decide) (by rw [c9, s_dg_none])⟩) | exact ⟨_, rfl, rfl, lX_dg (hx.resolve_left c1)⟩
theorem c_X11_codeOf (ok : k_ok G l) {h : k_H} {a b c : Int32} (ha : s_na a) (hb : s_na b) (hc : s_na c) : k_ctj (tX11_codeOf G l) [vI a, vI b, vI c] h (fun h' v => h' = h ∧ v = lN (s_cd a b c)) := by
  refine k_ctj_of (eX11_codeOf ok.2 ?_)
  refine bX11_codeOf_0 (c_X11_digitOf ok (by assumption)) ?_
  rintro h1 v ⟨rfl, rfl⟩
  refine bX11_codeOf_4 (c_X11_digitOf ok (by assumption)) ?_
  rintro h1 v ⟨rfl, rfl⟩
  refine bX11_codeOf_12 (c_X11_digitOf ok (by assumption)) ?_
  rintro h1 v ⟨rfl, rfl⟩
  refine bX11_codeOf_21 ?_
  exact ⟨_, rfl, rfl, by rw [show (11000 : Int64) = lN 11000 from rfl, lN_mul, lN_add, lN_mul, lN_add]; rfl⟩
theorem c_X11_codeOf_ (ok : k_ok G l) {h : k_H} {a b : Int32} (ha : s_na a) (hb : s_na b) : k_ctj (tX11_codeOf_ G l) [vI a, vI b] h (fun h' v => h' = h ∧ v = lN (s_cd a b 10000)) := by
  refine k_ctj_of (eX11_codeOf_ ok.2 ?_)
  refine bX11_codeOf__0 (c_X11_codeOf ok (by assumption) (by assumption) (Or.inl rfl)) ?_
  rintro h1 v ⟨rfl, rfl⟩
  refine bX11_codeOf__8 ?_
  exact ⟨_, rfl, rfl, rfl⟩
def s_unit (p : Int32) : Nat := if p = 0 then 121000000 else if p = 1 then 11000 else 1
theorem c_X11_unitOf (ok : k_ok G l) {h : k_H} {p : Int32} : k_ctj (tX11_unitOf G l) [vI p] h (fun h' v => h' = h ∧ v = lN (s_unit p)) := by
  refine k_ctj_of (eX11_unitOf ok.2 ?_)
  refine bX11_unitOf_0 (fun c1 => ?_) (fun c2 => ?_)
  · refine bX11_unitOf_8 (fun c3 => ?_) (fun c4 => ?_)
    · refine bX11_unitOf_19 ?_
      refine bX11_unitOf_20 ?_
      exact ⟨_, rfl, rfl, by simp_all [s_unit]; try rfl⟩
    · refine bX11_unitOf_13 ?_
      refine bX11_unitOf_20 ?_
      exact ⟨_, rfl, rfl, by simp_all [s_unit]; try rfl⟩
  · refine bX11_unitOf_4 ?_
    exact ⟨_, rfl, rfl, by simp_all [s_unit]; try rfl⟩
def s_pl (p : Int32) : Nat := if p = 0 then 0 else if p = 1 then 1 else 2
theorem lX_un1 {d : Nat} (h : d < 11000) (c : ¬ lN d = 0) : (lN d - 1000).toInt32 = s_un d := by
  have h0 : ¬ d = 0 := fun z => c (by rw [z]; rfl)
  unfold s_un
  rw [if_neg h0, Int64.toInt32_sub, lN_i]
  rfl
theorem lX_un2 {d : Nat} (h : d < 11000) (c : ¬ lN d = 0) : (lN d).toInt32 - 1000 = s_un d := by
  have h0 : ¬ d = 0 := fun z => c (by rw [z]; rfl)
  unfold s_un
  rw [if_neg h0, lN_i]
theorem lX_un0 {d : Nat} (h : d < 11000) (c : lN d = 0) : (10000 : Int32) = s_un d := by
  have h0 : d = 0 := (lX_eq (by omega) (by decide)).mp (c.trans rfl)
  rw [h0]; rfl
theorem c_X11_numberOf (ok : k_ok G l) {h : k_H} {n : Nat} {p : Int32} (hn : n < 1331000000000) : k_cti (tX11_numberOf G l) [vJ (lN n), vI p] h (fun h' v => h' = h ∧ v = s_no n (s_pl p)) := by
  have key : ∀ d : Nat, d < 11000 → k_X (jX11_numberOf G l h) h 38 [(3, vJ (lN d))] [] (q_i (fun h' v => h' = h ∧ v = s_un d)) := fun d hd => by
    refine bX11_numberOf_38 (fun c1 => ?_) (fun c1 => ?_)
    · exact bX11_numberOf_50 (bX11_numberOf_56 ⟨_, rfl, rfl, lX_un1 hd c1⟩)
    · exact bX11_numberOf_44 (bX11_numberOf_56 ⟨_, rfl, rfl, lX_un0 hd c1⟩)
  have e1 : ∀ m : Nat, m < 2 ^ 62 → lN m - lN m / 11000 * 11000 = lN (m % 11000) := fun m hm => lX_mod (b := 11000) hm (by decide)
  have e2 : lN n / 121000000 = lN (n / 121000000) := lX_div (b := 121000000) (by omega) (by decide)
  have e3 : lN n / 11000 = lN (n / 11000) := lX_div (b := 11000) (by omega) (by decide)
  refine k_cti_of (eX11_numberOf ok.2 ?_)
  refine bX11_numberOf_0 (fun c1 => ?_) (fun c1 => ?_)
  · rw [e1 n (by omega)]
    refine bX11_numberOf_23 (fun c2 => ?_) (fun c2 => ?_)
    · have := key (n % 11000) (by omega)
      have e0 : s_no n (s_pl p) = s_un (n % 11000) := by unfold s_no s_dig s_pl; simp [c1, c2]
      rw [e0]
      exact this
    · refine bX11_numberOf_28 ?_
      rw [e3, e1 _ (by omega)]
      have := key (n / 11000 % 11000) (by omega)
      have e0 : s_no n (s_pl p) = s_un (n / 11000 % 11000) := by unfold s_no s_dig s_pl; simp [c1, c2]
      rw [e0]
      exact this
  · refine bX11_numberOf_10 ?_
    rw [e2, e1 _ (by omega)]
    have := key (n / 121000000 % 11000) (by omega)
    have e0 : s_no n (s_pl p) = s_un (n / 121000000 % 11000) := by unfold s_no s_dig s_pl; simp [c1]
    rw [e0]
    exact this
theorem c_X12_numberOf (ok : k_ok G l) {h : k_H} {n : Nat} {p : Int32} (hn : n < 1331000000000) : k_cti (tX12_numberOf G l) [vJ (lN n), vI p] h (fun h' v => h' = h ∧ v = s_no n (s_pl p)) := by
  have key : ∀ d : Nat, d < 11000 → k_X (jX12_numberOf G l h) h 34 [] [vJ (lN d)] (q_i (fun h' v => h' = h ∧ v = s_un d)) := fun d hd => by
    refine bX12_numberOf_34 (fun c1 => ?_) (fun c1 => ?_)
    · exact bX12_numberOf_47 (bX12_numberOf_53 ⟨_, rfl, rfl, lX_un2 hd c1⟩)
    · exact bX12_numberOf_41 (bX12_numberOf_53 ⟨_, rfl, rfl, lX_un0 hd c1⟩)
  have e1 : ∀ m : Nat, m < 2 ^ 62 → lN m - lN m / 11000 * 11000 = lN (m % 11000) := fun m hm => lX_mod (b := 11000) hm (by decide)
  have e2 : lN n / 121000000 = lN (n / 121000000) := lX_div (b := 121000000) (by omega) (by decide)
  have e3 : lN n / 11000 = lN (n / 11000) := lX_div (b := 11000) (by omega) (by decide)
  refine k_cti_of (eX12_numberOf ok.2 ?_)
  refine bX12_numberOf_0 (fun c1 => ?_) (fun c1 => ?_)
  · refine bX12_numberOf_12 (fun c2 => ?_) (fun c2 => ?_)
    · refine bX12_numberOf_29 ?_
      rw [e1 n (by omega)]
      have := key (n % 11000) (by omega)
      have e0 : s_no n (s_pl p) = s_un (n % 11000) := by unfold s_no s_dig s_pl; simp [c1, c2]
      rw [e0]
      exact this
    · refine bX12_numberOf_17 ?_
      rw [e3, e1 _ (by omega)]
      have := key (n / 11000 % 11000) (by omega)
      have e0 : s_no n (s_pl p) = s_un (n / 11000 % 11000) := by unfold s_no s_dig s_pl; simp [c1, c2]
      rw [e0]
      exact this
  · refine bX12_numberOf_4 ?_
    rw [e2]
    have := key (n / 121000000) (by omega)
    have e9 : n / 121000000 % 11000 = n / 121000000 := Nat.mod_eq_of_lt (by omega)
    have e0 : s_no n (s_pl p) = s_un (n / 121000000) := by unfold s_no s_dig s_pl; simp [c1]; rw [e9]
    rw [e0]
    exact this
/-- ranges of codes -/
def s_lo (a b : Int32) : Nat := if a = 10000 then 0 else s_cd a b 10000
def s_hi (a b : Int32) : Nat := if a = 10000 then 1331000000000 else s_cd a b 10000 + (if b = 10000 then 121000000 else 11000)
theorem c_X11_lowOf (ok : k_ok G l) {h : k_H} {a b : Int32} (ha : s_na a) (hb : s_na b) : k_ctj (tX11_lowOf G l) [vI a, vI b] h (fun h' v => h' = h ∧ v = lN (s_lo a b)) := by
  refine k_ctj_of (eX11_lowOf ok.2 ?_)
  refine bX11_lowOf_0 (fun c1 => ?_) (fun c2 => ?_)
  · refine bX11_lowOf_11 (c_X11_codeOf_ ok (by assumption) (by assumption)) ?_
    rintro h1 v ⟨rfl, rfl⟩
    refine bX11_lowOf_16 ?_
    exact ⟨_, rfl, rfl, by simp_all [s_lo]; try rfl⟩
  · refine bX11_lowOf_7 ?_
    refine bX11_lowOf_16 ?_
    exact ⟨_, rfl, rfl, by simp_all [s_lo]; try rfl⟩
theorem c_X11_highOf (ok : k_ok G l) {h : k_H} {a b : Int32} (ha : s_na a) (hb : s_na b) : k_ctj (tX11_highOf G l) [vI a, vI b] h (fun h' v => h' = h ∧ v = lN (s_hi a b)) := by
  refine k_ctj_of (eX11_highOf ok.2 ?_)
  refine bX11_highOf_0 (fun c1 => ?_) (fun c2 => ?_)
  · refine bX11_highOf_11 (c_X11_codeOf_ ok (by assumption) (by assumption)) ?_
    rintro h1 v ⟨rfl, rfl⟩
    refine bX11_highOf_16 (fun c3 => ?_) (fun c4 => ?_)
    · refine bX11_highOf_27 ?_
      refine bX11_highOf_28 (c_X11_unitOf ok) ?_
      rintro h1 v ⟨rfl, rfl⟩
      refine bX11_highOf_31 ?_
      exact ⟨_, rfl, rfl, by simp_all [s_hi, lN_add, s_unit]; try rfl⟩
    · refine bX11_highOf_23 ?_
      refine bX11_highOf_28 (c_X11_unitOf ok) ?_
      rintro h1 v ⟨rfl, rfl⟩
      refine bX11_highOf_31 ?_
      exact ⟨_, rfl, rfl, by simp_all [s_hi, lN_add, s_unit]; try rfl⟩
  · refine bX11_highOf_7 ?_
    exact ⟨_, rfl, rfl, by simp_all [s_hi, lN_add, s_unit]; try rfl⟩
def s_byte (n p : Int32) : Int32 := if p = 0 then (if n < 0 then 1 else 2) else if p = 1 then (if n < 0 then n + 1000 else n) / 100 else (if n < 0 then n + 1000 else n) - (if n < 0 then n + 1000 else n) / 100 * 100
theorem c_X11_byteOf (ok : k_ok G l) {h : k_H} {n p : Int32} : k_cti (tX11_byteOf G l) [vI n, vI p] h (fun h' v => h' = h ∧ v = s_byte n p) := by
  refine k_cti_of (eX11_byteOf ok.2 ?_)
  refine bX11_byteOf_0 (fun c1 => ?_) (fun c2 => ?_)
  · refine bX11_byteOf_14 (fun c3 => ?_) (fun c4 => ?_)
    · refine bX11_byteOf_26 ?_
      refine bX11_byteOf_27 (fun c5 => ?_) (fun c6 => ?_)
      · refine bX11_byteOf_40 ?_
        refine bX11_byteOf_44 ?_
        exact ⟨_, rfl, rfl, by simp_all [s_byte, ← Int32.not_lt]⟩
      · refine bX11_byteOf_33 ?_
        refine bX11_byteOf_44 ?_
        exact ⟨_, rfl, rfl, by simp_all [s_byte, ← Int32.not_lt]⟩
    · refine bX11_byteOf_18 ?_
      refine bX11_byteOf_27 (fun c7 => ?_) (fun c8 => ?_)
      · refine bX11_byteOf_40 ?_
        refine bX11_byteOf_44 ?_
        exact ⟨_, rfl, rfl, by simp_all [s_byte, ← Int32.not_lt]⟩
      · refine bX11_byteOf_33 ?_
        refine bX11_byteOf_44 ?_
        exact ⟨_, rfl, rfl, by simp_all [s_byte, ← Int32.not_lt]⟩
  · refine bX11_byteOf_4 (fun c9 => ?_) (fun c10 => ?_)
    · refine bX11_byteOf_12 ?_
      refine bX11_byteOf_13 ?_
      exact ⟨_, rfl, rfl, by simp_all [s_byte, ← Int32.not_lt]⟩
    · refine bX11_byteOf_8 ?_
      refine bX11_byteOf_13 ?_
      exact ⟨_, rfl, rfl, by simp_all [s_byte, ← Int32.not_lt]⟩
theorem c_X11_requireKey (ok : k_ok G l) {h : k_H} {a b c : Int32} (hc : s_keyB a b c = true) : k_ctv (tX11_requireKey G l) [vI a, vI b, vI c] h (fun h' => h' = h) := by
  refine k_ctv_of (eX11_requireKey ok.2 ?_)
  refine bX11_requireKey_0 (c_X11_isKey ok) ?_
  rintro h1 v ⟨rfl, rfl⟩
  refine bX11_requireKey_6 (fun c1 => ?_) (fun c2 => ?_)
  · refine bX11_requireKey_20 ?_
    first | exact ⟨rfl, rfl⟩ | (exfalso; simp_all [kB_0, kB_n0])
  · refine bX11_requireKey_9 ?_
    first | exact ⟨rfl, rfl⟩ | (exfalso; simp_all [kB_0, kB_n0])
theorem x_X11_requireKey (ok : k_ok G l) {h : k_H} {a b c : Int32} (hc : s_keyB a b c = false) : k_ctx (tX11_requireKey G l) [vI a, vI b, vI c] h "java/lang/IllegalArgumentException" (fun h' => h' = k_sk h 1 6) := by
  refine k_ctx_of (eX11_requireKey ok.2 ?_)
  refine bX11_requireKey_0 (c_X11_isKey ok) ?_
  rintro h1 v ⟨rfl, rfl⟩
  refine bX11_requireKey_6 (fun c1 => ?_) (fun c2 => ?_)
  · refine bX11_requireKey_20 ?_
    first | exact ⟨rfl, rfl⟩ | (exfalso; simp_all [kB_0, kB_n0])
  · refine bX11_requireKey_9 ?_
    first | exact ⟨rfl, rfl⟩ | (exfalso; simp_all [kB_0, kB_n0])
theorem c_X11_requireRange (ok : k_ok G l) {h : k_H} {a b : Int32} (hc : s_rngB a b = true) : k_ctv (tX11_requireRange G l) [vI a, vI b] h (fun h' => h' = h) := by
  refine k_ctv_of (eX11_requireRange ok.2 ?_)
  refine bX11_requireRange_0 (c_X11_isRange ok) ?_
  rintro h1 v ⟨rfl, rfl⟩
  refine bX11_requireRange_5 (fun c1 => ?_) (fun c2 => ?_)
  · refine bX11_requireRange_19 ?_
    first | exact ⟨rfl, rfl⟩ | (exfalso; simp_all [kB_0, kB_n0])
  · refine bX11_requireRange_8 ?_
    first | exact ⟨rfl, rfl⟩ | (exfalso; simp_all [kB_0, kB_n0])
theorem x_X11_requireRange (ok : k_ok G l) {h : k_H} {a b : Int32} (hc : s_rngB a b = false) : k_ctx (tX11_requireRange G l) [vI a, vI b] h "java/lang/IllegalArgumentException" (fun h' => h' = k_sk h 1 6) := by
  refine k_ctx_of (eX11_requireRange ok.2 ?_)
  refine bX11_requireRange_0 (c_X11_isRange ok) ?_
  rintro h1 v ⟨rfl, rfl⟩
  refine bX11_requireRange_5 (fun c1 => ?_) (fun c2 => ?_)
  · refine bX11_requireRange_19 ?_
    first | exact ⟨rfl, rfl⟩ | (exfalso; simp_all [kB_0, kB_n0])
  · refine bX11_requireRange_8 ?_
    first | exact ⟨rfl, rfl⟩ | (exfalso; simp_all [kB_0, kB_n0])
theorem c_X11_requireIndex (ok : k_ok G l) {h : k_H} {i : Int32} (hc : 0 ≤ i ∧ i < 3) : k_ctv (tX11_requireIndex G l) [vI i] h (fun h' => h' = h) := by
  refine k_ctv_of (eX11_requireIndex ok.2 ?_)
  refine bX11_requireIndex_0 (fun c1 => ?_) (fun c2 => ?_)
  · refine bX11_requireIndex_9 ?_
    first | exact ⟨rfl, rfl⟩ | (exfalso; simp_all [← Int32.not_lt])
  · refine bX11_requireIndex_4 (fun c3 => ?_) (fun c4 => ?_)
    · refine bX11_requireIndex_20 ?_
      first | exact ⟨rfl, rfl⟩ | (exfalso; simp_all [← Int32.not_lt])
    · refine bX11_requireIndex_9 ?_
      first | exact ⟨rfl, rfl⟩ | (exfalso; simp_all [← Int32.not_lt])
theorem x_X11_requireIndex (ok : k_ok G l) {h : k_H} {i : Int32} (hc : ¬ (0 ≤ i ∧ i < 3)) : k_ctx (tX11_requireIndex G l) [vI i] h "java/lang/IndexOutOfBoundsException" (fun h' => h' = k_sk h 1 6) := by
  refine k_ctx_of (eX11_requireIndex ok.2 ?_)
  refine bX11_requireIndex_0 (fun c1 => ?_) (fun c2 => ?_)
  · refine bX11_requireIndex_9 ?_
    first | exact ⟨rfl, rfl⟩ | (exfalso; simp_all [← Int32.not_lt])
  · refine bX11_requireIndex_4 (fun c3 => ?_) (fun c4 => ?_)
    · refine bX11_requireIndex_20 ?_
      first | exact ⟨rfl, rfl⟩ | (exfalso; simp_all [← Int32.not_lt])
    · refine bX11_requireIndex_9 ?_
      first | exact ⟨rfl, rfl⟩ | (exfalso; simp_all [← Int32.not_lt])
theorem c_X11_requireWorker (ok : k_ok G l) {h : k_H} {i : Int32} (hc : 0 ≤ i ∧ i < 3) : k_ctv (tX11_requireWorker G l) [vI i] h (fun h' => h' = h) := by
  refine k_ctv_of (eX11_requireWorker ok.2 ?_)
  refine bX11_requireWorker_0 (fun c1 => ?_) (fun c2 => ?_)
  · refine bX11_requireWorker_9 ?_
    first | exact ⟨rfl, rfl⟩ | (exfalso; simp_all [← Int32.not_lt])
  · refine bX11_requireWorker_4 (fun c3 => ?_) (fun c4 => ?_)
    · refine bX11_requireWorker_20 ?_
      first | exact ⟨rfl, rfl⟩ | (exfalso; simp_all [← Int32.not_lt])
    · refine bX11_requireWorker_9 ?_
      first | exact ⟨rfl, rfl⟩ | (exfalso; simp_all [← Int32.not_lt])
theorem x_X11_requireWorker (ok : k_ok G l) {h : k_H} {i : Int32} (hc : ¬ (0 ≤ i ∧ i < 3)) : k_ctx (tX11_requireWorker G l) [vI i] h "java/lang/IndexOutOfBoundsException" (fun h' => h' = k_sk h 1 6) := by
  refine k_ctx_of (eX11_requireWorker ok.2 ?_)
  refine bX11_requireWorker_0 (fun c1 => ?_) (fun c2 => ?_)
  · refine bX11_requireWorker_9 ?_
    first | exact ⟨rfl, rfl⟩ | (exfalso; simp_all [← Int32.not_lt])
  · refine bX11_requireWorker_4 (fun c3 => ?_) (fun c4 => ?_)
    · refine bX11_requireWorker_20 ?_
      first | exact ⟨rfl, rfl⟩ | (exfalso; simp_all [← Int32.not_lt])
    · refine bX11_requireWorker_9 ?_
      first | exact ⟨rfl, rfl⟩ | (exfalso; simp_all [← Int32.not_lt])
theorem c_X11_requireAboveLayers (ok : k_ok G l) {h : k_H} {a : Int32} (hc : ¬ (-7 ≤ a ∧ a ≤ -1)) : k_ctv (tX11_requireAboveLayers G l) [vI a] h (fun h' => h' = h) := by
  refine k_ctv_of (eX11_requireAboveLayers ok.2 ?_)
  refine bX11_requireAboveLayers_0 (fun c1 => ?_) (fun c2 => ?_)
  · refine bX11_requireAboveLayers_22 ?_
    first | exact ⟨rfl, rfl⟩ | (exfalso; simp_all [← Int32.not_lt])
  · refine bX11_requireAboveLayers_6 (fun c3 => ?_) (fun c4 => ?_)
    · refine bX11_requireAboveLayers_22 ?_
      first | exact ⟨rfl, rfl⟩ | (exfalso; simp_all [← Int32.not_lt])
    · refine bX11_requireAboveLayers_11 ?_
      first | exact ⟨rfl, rfl⟩ | (exfalso; simp_all [← Int32.not_lt])
theorem x_X11_requireAboveLayers (ok : k_ok G l) {h : k_H} {a : Int32} (hc : ¬ (¬ (-7 ≤ a ∧ a ≤ -1))) : k_ctx (tX11_requireAboveLayers G l) [vI a] h "java/lang/IllegalArgumentException" (fun h' => h' = k_sk h 1 6) := by
  refine k_ctx_of (eX11_requireAboveLayers ok.2 ?_)
  refine bX11_requireAboveLayers_0 (fun c1 => ?_) (fun c2 => ?_)
  · refine bX11_requireAboveLayers_22 ?_
    first | exact ⟨rfl, rfl⟩ | (exfalso; simp_all [← Int32.not_lt])
  · refine bX11_requireAboveLayers_6 (fun c3 => ?_) (fun c4 => ?_)
    · refine bX11_requireAboveLayers_22 ?_
      first | exact ⟨rfl, rfl⟩ | (exfalso; simp_all [← Int32.not_lt])
    · refine bX11_requireAboveLayers_11 ?_
      first | exact ⟨rfl, rfl⟩ | (exfalso; simp_all [← Int32.not_lt])
theorem c_X11_requireName (ok : k_ok G l) {h : k_H} {n : Int32} (hc : 0 ≤ n ∧ n ≤ 9) : k_ctv (tX11_requireName G l) [vI n] h (fun h' => h' = h) := by
  refine k_ctv_of (eX11_requireName ok.2 ?_)
  refine bX11_requireName_0 (fun c1 => ?_) (fun c2 => ?_)
  · refine bX11_requireName_10 ?_
    first | exact ⟨rfl, rfl⟩ | (exfalso; simp_all [← Int32.not_lt])
  · refine bX11_requireName_4 (fun c3 => ?_) (fun c4 => ?_)
    · refine bX11_requireName_21 ?_
      first | exact ⟨rfl, rfl⟩ | (exfalso; simp_all [← Int32.not_lt])
    · refine bX11_requireName_10 ?_
      first | exact ⟨rfl, rfl⟩ | (exfalso; simp_all [← Int32.not_lt])
theorem x_X11_requireName (ok : k_ok G l) {h : k_H} {n : Int32} (hc : ¬ (0 ≤ n ∧ n ≤ 9)) : k_ctx (tX11_requireName G l) [vI n] h "java/lang/IllegalArgumentException" (fun h' => h' = k_sk h 1 6) := by
  refine k_ctx_of (eX11_requireName ok.2 ?_)
  refine bX11_requireName_0 (fun c1 => ?_) (fun c2 => ?_)
  · refine bX11_requireName_10 ?_
    first | exact ⟨rfl, rfl⟩ | (exfalso; simp_all [← Int32.not_lt])
  · refine bX11_requireName_4 (fun c3 => ?_) (fun c4 => ?_)
    · refine bX11_requireName_21 ?_
      first | exact ⟨rfl, rfl⟩ | (exfalso; simp_all [← Int32.not_lt])
    · refine bX11_requireName_10 ?_
      first | exact ⟨rfl, rfl⟩ | (exfalso; simp_all [← Int32.not_lt])
theorem c_X11_requireRecord (ok : k_ok G l) {h : k_H} {n : Int32} (hc : 0 ≤ n ∧ n ≤ 99) : k_ctv (tX11_requireRecord G l) [vI n] h (fun h' => h' = h) := by
  refine k_ctv_of (eX11_requireRecord ok.2 ?_)
  refine bX11_requireRecord_0 (fun c1 => ?_) (fun c2 => ?_)
  · refine bX11_requireRecord_10 ?_
    first | exact ⟨rfl, rfl⟩ | (exfalso; simp_all [← Int32.not_lt])
  · refine bX11_requireRecord_4 (fun c3 => ?_) (fun c4 => ?_)
    · refine bX11_requireRecord_21 ?_
      first | exact ⟨rfl, rfl⟩ | (exfalso; simp_all [← Int32.not_lt])
    · refine bX11_requireRecord_10 ?_
      first | exact ⟨rfl, rfl⟩ | (exfalso; simp_all [← Int32.not_lt])
theorem x_X11_requireRecord (ok : k_ok G l) {h : k_H} {n : Int32} (hc : ¬ (0 ≤ n ∧ n ≤ 99)) : k_ctx (tX11_requireRecord G l) [vI n] h "java/lang/IllegalArgumentException" (fun h' => h' = k_sk h 1 6) := by
  refine k_ctx_of (eX11_requireRecord ok.2 ?_)
  refine bX11_requireRecord_0 (fun c1 => ?_) (fun c2 => ?_)
  · refine bX11_requireRecord_10 ?_
    first | exact ⟨rfl, rfl⟩ | (exfalso; simp_all [← Int32.not_lt])
  · refine bX11_requireRecord_4 (fun c3 => ?_) (fun c4 => ?_)
    · refine bX11_requireRecord_21 ?_
      first | exact ⟨rfl, rfl⟩ | (exfalso; simp_all [← Int32.not_lt])
    · refine bX11_requireRecord_10 ?_
      first | exact ⟨rfl, rfl⟩ | (exfalso; simp_all [← Int32.not_lt])
theorem c_X11_requireField (ok : k_ok G l) {h : k_H} {n : Int32} (hc : 0 ≤ n ∧ n ≤ 99) : k_ctv (tX11_requireField G l) [vI n] h (fun h' => h' = h) := by
  refine k_ctv_of (eX11_requireField ok.2 ?_)
  refine bX11_requireField_0 (fun c1 => ?_) (fun c2 => ?_)
  · refine bX11_requireField_10 ?_
    first | exact ⟨rfl, rfl⟩ | (exfalso; simp_all [← Int32.not_lt])
  · refine bX11_requireField_4 (fun c3 => ?_) (fun c4 => ?_)
    · refine bX11_requireField_21 ?_
      first | exact ⟨rfl, rfl⟩ | (exfalso; simp_all [← Int32.not_lt])
    · refine bX11_requireField_10 ?_
      first | exact ⟨rfl, rfl⟩ | (exfalso; simp_all [← Int32.not_lt])
theorem x_X11_requireField (ok : k_ok G l) {h : k_H} {n : Int32} (hc : ¬ (0 ≤ n ∧ n ≤ 99)) : k_ctx (tX11_requireField G l) [vI n] h "java/lang/IllegalArgumentException" (fun h' => h' = k_sk h 1 6) := by
  refine k_ctx_of (eX11_requireField ok.2 ?_)
  refine bX11_requireField_0 (fun c1 => ?_) (fun c2 => ?_)
  · refine bX11_requireField_10 ?_
    first | exact ⟨rfl, rfl⟩ | (exfalso; simp_all [← Int32.not_lt])
  · refine bX11_requireField_4 (fun c3 => ?_) (fun c4 => ?_)
    · refine bX11_requireField_21 ?_
      first | exact ⟨rfl, rfl⟩ | (exfalso; simp_all [← Int32.not_lt])
    · refine bX11_requireField_10 ?_
      first | exact ⟨rfl, rfl⟩ | (exfalso; simp_all [← Int32.not_lt])
end ST
