section
/-! NUMBERS, KEYS AND CODES -/
def kP (p : Prop) [Decidable p] : Int32 := if p then 1 else 0
theorem kP_bl (p : Prop) [Decidable p] : kP p = 0 ∨ kP p = 1 := by unfold kP; split <;> simp
theorem kP_0 {p : Prop} [Decidable p] : kP p = 0 ↔ ¬ p := by unfold kP; split <;> simp_all
theorem kP_1 {p : Prop} [Decidable p] : kP p = 1 ↔ p := by unfold kP; split <;> simp_all
theorem kP_t {p : Prop} [Decidable p] (h : p) : kP p = 1 := if_pos h
theorem kP_f {p : Prop} [Decidable p] (h : ¬ p) : kP p = 0 := if_neg h
theorem kP_iff {p q : Prop} [Decidable p] [Decidable q] (h : p ↔ q) : kP p = kP q := by
  by_cases c : p
  · rw [kP_t c, kP_t (h.mp c)]
  · rw [kP_f c, kP_f (fun z => c (h.mpr z))]
/-- a number of a key -/
def s_nm (x : Int32) : Prop := ¬ x < -999 ∧ ¬ 9999 < x
theorem s_nm_int {x : Int32} (h : s_nm x) : -999 ≤ x.toInt ∧ x.toInt ≤ 9999 := by
  obtain ⟨h1, h2⟩ := h
  have e1 := Int32.le_iff_toInt_le.mp (Int32.not_lt.mp h1)
  have e2 := Int32.le_iff_toInt_le.mp (Int32.not_lt.mp h2)
  have r1 : (-999 : Int32).toInt = -999 := by decide
  have r2 : (9999 : Int32).toInt = 9999 := by decide
  omega
theorem s_nm_of {x : Int32} (h1 : -999 ≤ x.toInt) (h2 : x.toInt ≤ 9999) : s_nm x := by
  have r1 : (-999 : Int32).toInt = -999 := by decide
  have r2 : (9999 : Int32).toInt = 9999 := by decide
  exact ⟨Int32.not_lt.mpr (Int32.le_iff_toInt_le.mpr (by omega)), Int32.not_lt.mpr (Int32.le_iff_toInt_le.mpr (by omega))⟩
theorem s_nm_ne {x : Int32} (h : s_nm x) : ¬ x = 10000 := fun e => by
  have := (s_nm_int h).2
  rw [e] at this
  exact absurd this (by decide)
/-- .. or none -/
def s_na (x : Int32) : Prop := x = 10000 ∨ s_nm x
def s_nmB (x : Int32) : Bool := decide (¬ x < -999) && decide (¬ 9999 < x)
theorem s_nmB_iff {x : Int32} : s_nmB x = true ↔ s_nm x := by simp [s_nmB, s_nm]
/-- a key; a range -/
def s_keyB (a b c : Int32) : Bool := s_nmB a && (decide (b = 10000) && decide (c = 10000) || s_nmB b && (decide (c = 10000) || s_nmB c))
def s_rngB (a b : Int32) : Bool := decide (a = 10000) && decide (b = 10000) || s_nmB a && (decide (b = 10000) || s_nmB b)
def kB (b : Bool) : Int32 := if b = true then 1 else 0
theorem kB_bl (b : Bool) : kB b = 0 ∨ kB b = 1 := by cases b <;> simp [kB]
theorem kB_0 {b : Bool} : kB b = 0 ↔ b = false := by cases b <;> simp [kB]
theorem kB_n0 {b : Bool} : ¬ kB b = 0 ↔ b = true := by cases b <;> simp [kB]
theorem kB_1 {b : Bool} : kB b = 1 ↔ b = true := by cases b <;> simp [kB]
/-- the digit of a number; a code -/
def s_dg (x : Int32) : Nat := if x = 10000 then 0 else (x.toInt + 1000).toNat
def s_cd (a b c : Int32) : Nat := (s_dg a * 11000 + s_dg b) * 11000 + s_dg c
theorem s_dg_none : s_dg 10000 = 0 := rfl
theorem s_dg_num {x : Int32} (h : s_nm x) : (s_dg x : Int) = x.toInt + 1000 := by
  unfold s_dg
  rw [if_neg (s_nm_ne h)]
  have := s_nm_int h
  omega
theorem s_dg_pos {x : Int32} (h : s_nm x) : 0 < s_dg x := by have := s_dg_num h; have := s_nm_int h; omega
theorem s_dg_lt {x : Int32} (h : s_na x) : s_dg x < 11000 := by
  rcases h with rfl | h
  · decide
  · have := s_dg_num h; have := s_nm_int h; omega
theorem s_dg_inj {x y : Int32} (hx : s_na x) (hy : s_na y) (e : s_dg x = s_dg y) : x = y := by
  rcases hx with rfl | hx <;> rcases hy with rfl | hy
  · rfl
  · have := s_dg_pos hy; rw [← e, s_dg_none] at this; omega
  · have := s_dg_pos hx; rw [e, s_dg_none] at this; omega
  · apply Int32.toInt_inj.mp
    have := s_dg_num hx; have := s_dg_num hy; omega
theorem s_cd_lt {a b c : Int32} (ha : s_na a) (hb : s_na b) (hc : s_na c) : s_cd a b c < 1331000000000 := by
  have := s_dg_lt ha; have := s_dg_lt hb; have := s_dg_lt hc
  unfold s_cd; omega
theorem s_cd_inj {a b c a' b' c' : Int32} (ha : s_na a) (hb : s_na b) (hc : s_na c) (ha' : s_na a') (hb' : s_na b') (hc' : s_na c') (e : s_cd a b c = s_cd a' b' c') : a = a' ∧ b = b' ∧ c = c' := by
  have h1 := s_dg_lt ha; have h2 := s_dg_lt hb; have h3 := s_dg_lt hc
  have h4 := s_dg_lt ha'; have h5 := s_dg_lt hb'; have h6 := s_dg_lt hc'
  unfold s_cd at e
  exact ⟨s_dg_inj ha ha' (by omega), s_dg_inj hb hb' (by omega), s_dg_inj hc hc' (by omega)⟩
/-- the numbers of a code -/
def s_dig (n place : Nat) : Nat := if place = 0 then n / 121000000 % 11000 else if place = 1 then n / 11000 % 11000 else n % 11000
def s_un (d : Nat) : Int32 := if d = 0 then 10000 else nI d - 1000
def s_no (n place : Nat) : Int32 := s_un (s_dig n place)
theorem s_un_dg {x : Int32} (h : s_na x) : s_un (s_dg x) = x := by
  rcases h with rfl | h
  · rfl
  · have h1 := s_dg_pos h
    have h2 := s_dg_num h
    have h3 := s_nm_int h
    unfold s_un
    rw [if_neg (by omega)]
    have e : nI (s_dg x) = x + 1000 := by
      apply Int32.toInt_inj.mp
      rw [nI_toInt (by omega), Int32.toInt_add]
      have r : (1000 : Int32).toInt = 1000 := by decide
      rw [r, h2, Int.bmod_eq_of_le (by omega) (by omega)]
    rw [e]
    exact Int32.add_sub_cancel _ _
theorem s_no_0 {a b c : Int32} (ha : s_na a) (hb : s_na b) (hc : s_na c) : s_no (s_cd a b c) 0 = a := by
  have h1 := s_dg_lt ha; have h2 := s_dg_lt hb; have h3 := s_dg_lt hc
  have e : s_dig (s_cd a b c) 0 = s_dg a := by unfold s_dig s_cd; rw [if_pos rfl]; omega
  unfold s_no
  rw [e, s_un_dg ha]
theorem s_no_1 {a b c : Int32} (ha : s_na a) (hb : s_na b) (hc : s_na c) : s_no (s_cd a b c) 1 = b := by
  have h1 := s_dg_lt ha; have h2 := s_dg_lt hb; have h3 := s_dg_lt hc
  have e : s_dig (s_cd a b c) 1 = s_dg b := by unfold s_dig s_cd; rw [if_neg (by decide), if_pos rfl]; omega
  unfold s_no
  rw [e, s_un_dg hb]
theorem s_no_2 {a b c : Int32} (ha : s_na a) (hb : s_na b) (hc : s_na c) : s_no (s_cd a b c) 2 = c := by
  have h1 := s_dg_lt ha; have h2 := s_dg_lt hb; have h3 := s_dg_lt hc
  have e : s_dig (s_cd a b c) 2 = s_dg c := by unfold s_dig s_cd; rw [if_neg (by decide), if_neg (by decide)]; omega
  unfold s_no
  rw [e, s_un_dg hc]
theorem s_un_na {d : Nat} (h : d < 11000) : s_na (s_un d) ∧ s_dg (s_un d) = d := by
  unfold s_un
  by_cases c : d = 0
  · rw [if_pos c]; exact ⟨Or.inl rfl, c ▸ rfl⟩
  · rw [if_neg c]
    have e : (nI d - 1000).toInt = (d : Int) - 1000 := by
      rw [Int32.toInt_sub, nI_toInt (by omega)]
      have r : (1000 : Int32).toInt = 1000 := by decide
      rw [r, Int.bmod_eq_of_le (by omega) (by omega)]
    have hn : s_nm (nI d - 1000) := s_nm_of (by omega) (by omega)
    refine ⟨Or.inr hn, ?_⟩
    have := s_dg_num hn
    omega
theorem s_dig_lt (n place : Nat) : s_dig n place < 11000 := by unfold s_dig; split <;> (try split) <;> omega
theorem s_cd_dig {n : Nat} (h : n < 1331000000000) : (s_dig n 0 * 11000 + s_dig n 1) * 11000 + s_dig n 2 = n := by
  unfold s_dig; rw [if_pos rfl, if_neg (by decide), if_pos rfl, if_neg (by decide), if_neg (by decide)]; omega
theorem s_cd_no {n : Nat} (h : n < 1331000000000) : s_cd (s_no n 0) (s_no n 1) (s_no n 2) = n := by
  unfold s_cd s_no
  rw [(s_un_na (s_dig_lt n 0)).2, (s_un_na (s_dig_lt n 1)).2, (s_un_na (s_dig_lt n 2)).2, s_cd_dig h]
/-- long numbers -/
theorem lX_toInt {n : Nat} (h : n < 2 ^ 62) : (lN n).toInt = (n : Int) := lg_ofNat_toInt (by omega)
theorem lX_le {a b : Nat} (ha : a < 2 ^ 62) (hb : b < 2 ^ 62) : lN a ≤ lN b ↔ a ≤ b := by
  rw [Int64.le_iff_toInt_le, lX_toInt ha, lX_toInt hb]; omega
theorem lX_lt {a b : Nat} (ha : a < 2 ^ 62) (hb : b < 2 ^ 62) : lN a < lN b ↔ a < b := by
  rw [Int64.lt_iff_toInt_lt, lX_toInt ha, lX_toInt hb]; omega
theorem lX_eq {a b : Nat} (ha : a < 2 ^ 62) (hb : b < 2 ^ 62) : lN a = lN b ↔ a = b := by
  constructor
  · intro h
    have := congrArg Int64.toInt h
    rw [lX_toInt ha, lX_toInt hb] at this
    omega
  · rintro rfl; rfl
theorem lX_div {a b : Nat} (ha : a < 2 ^ 62) (hb : b < 2 ^ 62) : lN a / lN b = lN (a / b) := by
  apply Int64.toInt_inj.mp
  have h1 : a / b ≤ a := Nat.div_le_self _ _
  rw [lX_toInt (by omega), Int64.toInt_div, lX_toInt ha, lX_toInt hb]
  rw [Int.tdiv_eq_ediv_of_nonneg (by omega)]
  have : ((a : Int) / (b : Int)) = ((a / b : Nat) : Int) := rfl
  rw [this]
  generalize a / b = q at h1
  rw [Int.bmod_eq_of_le (by omega) (by omega)]
theorem lX_mod {a b : Nat} (ha : a < 2 ^ 62) (hb : b < 2 ^ 62) : lN a - lN a / lN b * lN b = lN (a % b) := by
  rw [lX_div ha hb, lN_mul, lN_sub (Nat.div_mul_le_self _ _)]
  congr 1
  have := Nat.div_add_mod a b
  rw [Nat.mul_comm] at this
  omega
theorem lX_dg {x : Int32} (h : s_nm x) : x.toInt64 + 1000 = lN (s_dg x) := by
  have h1 := s_dg_num h
  have h2 := s_nm_int h
  apply Int64.toInt_inj.mp
  have r : (1000 : Int64).toInt = 1000 := by decide
  rw [lX_toInt (by omega), Int64.toInt_add, Int32.toInt_toInt64, r, h1, Int.bmod_eq_of_le (by omega) (by omega)]
end
section
/-! THE STATIC METHODS: numbers, keys, codes -/
theorem nB_no : s_nmB 10000 = false := by decide
section ST
variable {G : k_G} {l : Launch}
theorem c_X11_isNumber (ok : k_ok G l) {h : k_H} {x : Int32} : k_cti (tX11_isNumber G l) [vI x] h (fun h' v => h' = h ∧ v = kB (s_nmB x)) := by
  refine k_cti_of (eX11_isNumber ok.2 ?_)
  refine bX11_isNumber_0 (fun c1 => ?_) (fun c2 => ?_)
  · refine bX11_isNumber_18 ?_
    refine bX11_isNumber_19 (by first | exact Or.inl rfl | exact Or.inr rfl | exact kB_bl _) ?_
    exact ⟨_, rfl, rfl, by symm; simp_all [kB_0, kB_1, s_nmB]⟩
  · refine bX11_isNumber_7 (fun c3 => ?_) (fun c4 => ?_)
    · refine bX11_isNumber_18 ?_
      refine bX11_isNumber_19 (by first | exact Or.inl rfl | exact Or.inr rfl | exact kB_bl _) ?_
      exact ⟨_, rfl, rfl, by symm; simp_all [kB_0, kB_1, s_nmB]⟩
    · refine bX11_isNumber_14 ?_
      refine bX11_isNumber_19 (by first | exact Or.inl rfl | exact Or.inr rfl | exact kB_bl _) ?_
      exact ⟨_, rfl, rfl, by symm; simp_all [kB_0, kB_1, s_nmB]⟩
theorem c_X11_isKey (ok : k_ok G l) {h : k_H} {a b c : Int32} : k_cti (tX11_isKey G l) [vI a, vI b, vI c] h (fun h' v => h' = h ∧ v = kB (s_keyB a b c)) := by
  refine k_cti_of (eX11_isKey ok.2 ?_)
  refine bX11_isKey_0 (fun c1 => ?_) (fun c2 => ?_)
  · refine bX11_isKey_27 (c_X11_isNumber ok) ?_
    rintro h1 v ⟨rfl, rfl⟩
    refine bX11_isKey_31 (fun c3 => ?_) (fun c4 => ?_)
    · refine bX11_isKey_59 ?_
      refine bX11_isKey_60 (by first | exact Or.inl rfl | exact Or.inr rfl | exact kB_bl _) ?_
      exact ⟨_, rfl, rfl, by symm; simp_all [kB_0, kB_n0, kB_1, s_keyB, s_rngB, nB_no]⟩
    · refine bX11_isKey_34 (c_X11_isNumber ok) ?_
      rintro h1 v ⟨rfl, rfl⟩
      refine bX11_isKey_38 (fun c5 => ?_) (fun c6 => ?_)
      · refine bX11_isKey_59 ?_
        refine bX11_isKey_60 (by first | exact Or.inl rfl | exact Or.inr rfl | exact kB_bl _) ?_
        exact ⟨_, rfl, rfl, by symm; simp_all [kB_0, kB_n0, kB_1, s_keyB, s_rngB, nB_no]⟩
      · refine bX11_isKey_41 (fun c7 => ?_) (fun c8 => ?_)
        · refine bX11_isKey_55 ?_
          refine bX11_isKey_60 (by first | exact Or.inl rfl | exact Or.inr rfl | exact kB_bl _) ?_
          exact ⟨_, rfl, rfl, by symm; simp_all [kB_0, kB_n0, kB_1, s_keyB, s_rngB, nB_no]⟩
        · refine bX11_isKey_48 (c_X11_isNumber ok) ?_
          rintro h1 v ⟨rfl, rfl⟩
          refine bX11_isKey_52 (fun c9 => ?_) (fun c10 => ?_)
          · refine bX11_isKey_59 ?_
            refine bX11_isKey_60 (by first | exact Or.inl rfl | exact Or.inr rfl | exact kB_bl _) ?_
            exact ⟨_, rfl, rfl, by symm; simp_all [kB_0, kB_n0, kB_1, s_keyB, s_rngB, nB_no]⟩
          · refine bX11_isKey_55 ?_
            refine bX11_isKey_60 (by first | exact Or.inl rfl | exact Or.inr rfl | exact kB_bl _) ?_
            exact ⟨_, rfl, rfl, by symm; simp_all [kB_0, kB_n0, kB_1, s_keyB, s_rngB, nB_no]⟩
  · refine bX11_isKey_7 (c_X11_isNumber ok) ?_
    rintro h1 v ⟨rfl, rfl⟩
    refine bX11_isKey_11 (fun c11 => ?_) (fun c12 => ?_)
    · refine bX11_isKey_25 ?_
      refine bX11_isKey_26 (by first | exact Or.inl rfl | exact Or.inr rfl | exact kB_bl _) ?_
      exact ⟨_, rfl, rfl, by symm; simp_all [kB_0, kB_n0, kB_1, s_keyB, s_rngB, nB_no]⟩
    · refine bX11_isKey_14 (fun c13 => ?_) (fun c14 => ?_)
      · refine bX11_isKey_25 ?_
        refine bX11_isKey_26 (by first | exact Or.inl rfl | exact Or.inr rfl | exact kB_bl _) ?_
        exact ⟨_, rfl, rfl, by symm; simp_all [kB_0, kB_n0, kB_1, s_keyB, s_rngB, nB_no]⟩
      · refine bX11_isKey_21 ?_
        refine bX11_isKey_26 (by first | exact Or.inl rfl | exact Or.inr rfl | exact kB_bl _) ?_
        exact ⟨_, rfl, rfl, by symm; simp_all [kB_0, kB_n0, kB_1, s_keyB, s_rngB, nB_no]⟩
theorem c_X11_isRange (ok : k_ok G l) {h : k_H} {a b : Int32} : k_cti (tX11_isRange G l) [vI a, vI b] h (fun h' v => h' = h ∧ v = kB (s_rngB a b)) := by
  refine k_cti_of (eX11_isRange ok.2 ?_)
  refine bX11_isRange_0 (fun c1 => ?_) (fun c2 => ?_)
  · refine bX11_isRange_20 (c_X11_isNumber ok) ?_
    rintro h1 v ⟨rfl, rfl⟩
    refine bX11_isRange_24 (fun c3 => ?_) (fun c4 => ?_)
    · refine bX11_isRange_45 ?_
      refine bX11_isRange_46 (by first | exact Or.inl rfl | exact Or.inr rfl | exact kB_bl _) ?_
      exact ⟨_, rfl, rfl, by symm; simp_all [kB_0, kB_n0, kB_1, s_keyB, s_rngB, nB_no]⟩
    · refine bX11_isRange_27 (fun c5 => ?_) (fun c6 => ?_)
      · refine bX11_isRange_41 ?_
        refine bX11_isRange_46 (by first | exact Or.inl rfl | exact Or.inr rfl | exact kB_bl _) ?_
        exact ⟨_, rfl, rfl, by symm; simp_all [kB_0, kB_n0, kB_1, s_keyB, s_rngB, nB_no]⟩
      · refine bX11_isRange_34 (c_X11_isNumber ok) ?_
        rintro h1 v ⟨rfl, rfl⟩
        refine bX11_isRange_38 (fun c7 => ?_) (fun c8 => ?_)
        · refine bX11_isRange_45 ?_
          refine bX11_isRange_46 (by first | exact Or.inl rfl | exact Or.inr rfl | exact kB_bl _) ?_
          exact ⟨_, rfl, rfl, by symm; simp_all [kB_0, kB_n0, kB_1, s_keyB, s_rngB, nB_no]⟩
        · refine bX11_isRange_41 ?_
          refine bX11_isRange_46 (by first | exact Or.inl rfl | exact Or.inr rfl | exact kB_bl _) ?_
          exact ⟨_, rfl, rfl, by symm; simp_all [kB_0, kB_n0, kB_1, s_keyB, s_rngB, nB_no]⟩
  · refine bX11_isRange_7 (fun c9 => ?_) (fun c10 => ?_)
    · refine bX11_isRange_18 ?_
      refine bX11_isRange_19 (by first | exact Or.inl rfl | exact Or.inr rfl | exact kB_bl _) ?_
      exact ⟨_, rfl, rfl, by symm; simp_all [kB_0, kB_n0, kB_1, s_keyB, s_rngB, nB_no]⟩
    · refine bX11_isRange_14 ?_
      refine bX11_isRange_19 (by first | exact Or.inl rfl | exact Or.inr rfl | exact kB_bl _) ?_
      exact ⟨_, rfl, rfl, by symm; simp_all [kB_0, kB_n0, kB_1, s_keyB, s_rngB, nB_no]⟩
def s_last (b c : Int32) : Int32 := if b = 10000 then 0 else if c = 10000 then 1 else 2
theorem c_X11_lastPlace (ok : k_ok G l) {h : k_H} {b c : Int32} : k_cti (tX11_lastPlace G l) [vI b, vI c] h (fun h' v => h' = h ∧ v = s_last b c) := by
  refine k_cti_of (eX11_lastPlace ok.2 ?_)
  refine bX11_lastPlace_0 (fun c1 => ?_) (fun c2 => ?_)
  · refine bX11_lastPlace_9 (fun c3 => ?_) (fun c4 => ?_)
    · refine bX11_lastPlace_20 ?_
      refine bX11_lastPlace_21 ?_
      exact ⟨_, rfl, rfl, by simp_all [s_last]⟩
    · refine bX11_lastPlace_16 ?_
      refine bX11_lastPlace_21 ?_
      exact ⟨_, rfl, rfl, by simp_all [s_last]⟩
  · refine bX11_lastPlace_7 ?_
    exact ⟨_, rfl, rfl, by simp_all [s_last]⟩
theorem c_X11_digitOf (ok : k_ok G l) {h : k_H} {x : Int32} (hx : s_na x) : k_ctj (tX11_digitOf G l) [vI x] h (fun h' v => h' = h ∧ v = lN (s_dg x)) := by
  refine k_ctj_of (eX11_digitOf ok.2 ?_)
  refine bX11_digitOf_0 (fun c1 => ?_) (fun c2 => ?_)
  · refine bX11_digitOf_11 ?_
    refine bX11_digitOf_17 ?_
    first | (have c9 := c2; exact ⟨_, rfl, rfl, Eq.trans (b := lN 0) (by decide) (by rw [c9, s_dg_none])⟩) | exact ⟨_, rfl, rfl, lX_dg (hx.resolve_left c1)⟩
  · refine bX11_digitOf_7 ?_
    refine bX11_digitOf_17 ?_
    first | (have c9 := c2; exact ⟨_, rfl, rfl, Eq.trans (b := lN 0) (by decide) (by rw [c9, s_dg_none])⟩) | exact ⟨_, rfl, rfl, lX_dg (hx.resolve_left c1)⟩
theorem c_X11_codeOf (ok : k_ok G l) {h : k_H} {a b c : Int32} (ha : s_na a) (hb : s_na b) (hc : s_na c) : k_ctj (tX11_codeOf G l) [vI a, vI b, vI c] h (fun h' v => h' = h ∧ v = lN (s_cd a b c)) := by
  refine k_ctj_of (eX11_codeOf ok.2 ?_)
  refine bX11_codeOf_0 (c_X11_digitOf ok (by assumption)) ?_
  rintro h1 v ⟨rfl, rfl⟩
  refine bX11_codeOf_4 (c_X11_digitOf ok (by assumption)) ?_
  rintro h1 v ⟨rfl, rfl⟩
  refine bX11_codeOf_12 (c_X11_digitOf ok (by assumption)) ?_
  rintro h1 v ⟨rfl, rfl⟩
  refine bX11_codeOf_21 ?_
  exact ⟨_, rfl, rfl, by rw [show (11000 : Int64) = lN 11000 from rfl, lN_mul, lN_add, lN_mul, lN_add]; rfl⟩
theorem c_X11_codeOf_ (ok : k_ok G l) {h : k_H} {a b : Int32} (ha : s_na a) (hb : s_na b) : k_ctj (tX11_codeOf_ G l) [vI a, vI b] h (fun h' v => h' = h ∧ v = lN (s_cd a b 10000)) := by
  refine k_ctj_of (eX11_codeOf_ ok.2 ?_)
  refine bX11_codeOf__0 (c_X11_codeOf ok (by assumption) (by assumption) (Or.inl rfl)) ?_
  rintro h1 v ⟨rfl, rfl⟩
  refine bX11_codeOf__8 ?_
  exact ⟨_, rfl, rfl, rfl⟩
def s_unit (p : Int32) : Nat := if p = 0 then 121000000 else if p = 1 then 11000 else 1
theorem c_X11_unitOf (ok : k_ok G l) {h : k_H} {p : Int32} : k_ctj (tX11_unitOf G l) [vI p] h (fun h' v => h' = h ∧ v = lN (s_unit p)) := by
  refine k_ctj_of (eX11_unitOf ok.2 ?_)
  refine bX11_unitOf_0 (fun c1 => ?_) (fun c2 => ?_)
  · refine bX11_unitOf_8 (fun c3 => ?_) (fun c4 => ?_)
    · refine bX11_unitOf_19 ?_
      refine bX11_unitOf_20 ?_
      exact ⟨_, rfl, rfl, by simp_all [s_unit]; try rfl⟩
    · refine bX11_unitOf_13 ?_
      refine bX11_unitOf_20 ?_
      exact ⟨_, rfl, rfl, by simp_all [s_unit]; try rfl⟩
  · refine bX11_unitOf_4 ?_
    exact ⟨_, rfl, rfl, by simp_all [s_unit]; try rfl⟩
def s_pl (p : Int32) : Nat := if p = 0 then 0 else if p = 1 then 1 else 2
theorem lX_un1 {d : Nat} (h : d < 11000) (c : ¬ lN d = 0) : (lN d - 1000).toInt32 = s_un d := by
  have h0 : ¬ d = 0 := fun z => c (by rw [z]; rfl)
  unfold s_un
  rw [if_neg h0, Int64.toInt32_sub, lN_i]
  rfl
theorem lX_un2 {d : Nat} (h : d < 11000) (c : ¬ lN d = 0) : (lN d).toInt32 - 1000 = s_un d := by
  have h0 : ¬ d = 0 := fun z => c (by rw [z]; rfl)
  unfold s_un
  rw [if_neg h0, lN_i]
theorem lX_un0 {d : Nat} (h : d < 11000) (c : lN d = 0) : (10000 : Int32) = s_un d := by
  have h0 : d = 0 := (lX_eq (by omega) (by decide)).mp (c.trans rfl)
  rw [h0]; rfl
theorem c_X11_numberOf (ok : k_ok G l) {h : k_H} {n : Nat} {p : Int32} (hn : n < 1331000000000) : k_cti (tX11_numberOf G l) [vJ (lN n), vI p] h (fun h' v => h' = h ∧ v = s_no n (s_pl p)) := by
  have key : ∀ d : Nat, d < 11000 → k_X (jX11_numberOf G l h) h 38 [(3, vJ (lN d))] [] (q_i (fun h' v => h' = h ∧ v = s_un d)) := fun d hd => by
    refine bX11_numberOf_38 (fun c1 => ?_) (fun c1 => ?_)
    · exact bX11_numberOf_50 (bX11_numberOf_56 ⟨_, rfl, rfl, lX_un1 hd c1⟩)
    · exact bX11_numberOf_44 (bX11_numberOf_56 ⟨_, rfl, rfl, lX_un0 hd c1⟩)
  have e1 : ∀ m : Nat, m < 2 ^ 62 → lN m - lN m / 11000 * 11000 = lN (m % 11000) := fun m hm => lX_mod (b := 11000) hm (by decide)
  have e2 : lN n / 121000000 = lN (n / 121000000) := lX_div (b := 121000000) (by omega) (by decide)
  have e3 : lN n / 11000 = lN (n / 11000) := lX_div (b := 11000) (by omega) (by decide)
  refine k_cti_of (eX11_numberOf ok.2 ?_)
  refine bX11_numberOf_0 (fun c1 => ?_) (fun c1 => ?_)
  · rw [e1 n (by omega)]
    refine bX11_numberOf_23 (fun c2 => ?_) (fun c2 => ?_)
    · have := key (n % 11000) (by omega)
      have e0 : s_no n (s_pl p) = s_un (n % 11000) := by unfold s_no s_dig s_pl; simp [c1, c2]
      rw [e0]
      exact this
    · refine bX11_numberOf_28 ?_
      rw [e3, e1 _ (by omega)]
      have := key (n / 11000 % 11000) (by omega)
      have e0 : s_no n (s_pl p) = s_un (n / 11000 % 11000) := by unfold s_no s_dig s_pl; simp [c1, c2]
      rw [e0]
      exact this
  · refine bX11_numberOf_10 ?_
    rw [e2, e1 _ (by omega)]
    have := key (n / 121000000 % 11000) (by omega)
    have e0 : s_no n (s_pl p) = s_un (n / 121000000 % 11000) := by unfold s_no s_dig s_pl; simp [c1]
    rw [e0]
    exact this
/-- ranges of codes -/
def s_lo (a b : Int32) : Nat := if a = 10000 then 0 else s_cd a b 10000
def s_hi (a b : Int32) : Nat := if a = 10000 then 1331000000000 else s_cd a b 10000 + (if b = 10000 then 121000000 else 11000)
theorem c_X11_lowOf (ok : k_ok G l) {h : k_H} {a b : Int32} (ha : s_na a) (hb : s_na b) : k_ctj (tX11_lowOf G l) [vI a, vI b] h (fun h' v => h' = h ∧ v = lN (s_lo a b)) := by
  refine k_ctj_of (eX11_lowOf ok.2 ?_)
  refine bX11_lowOf_0 (fun c1 => ?_) (fun c2 => ?_)
  · refine bX11_lowOf_11 (c_X11_codeOf_ ok (by assumption) (by assumption)) ?_
    rintro h1 v ⟨rfl, rfl⟩
    refine bX11_lowOf_16 ?_
    exact ⟨_, rfl, rfl, by simp_all [s_lo]; try rfl⟩
  · refine bX11_lowOf_7 ?_
    refine bX11_lowOf_16 ?_
    exact ⟨_, rfl, rfl, by simp_all [s_lo]; try rfl⟩
theorem c_X11_highOf (ok : k_ok G l) {h : k_H} {a b : Int32} (ha : s_na a) (hb : s_na b) : k_ctj (tX11_highOf G l) [vI a, vI b] h (fun h' v => h' = h ∧ v = lN (s_hi a b)) := by
  refine k_ctj_of (eX11_highOf ok.2 ?_)
  refine bX11_highOf_0 (fun c1 => ?_) (fun c2 => ?_)
  · refine bX11_highOf_11 (c_X11_codeOf_ ok (by assumption) (by assumption)) ?_
    rintro h1 v ⟨rfl, rfl⟩
    refine bX11_highOf_16 (fun c3 => ?_) (fun c4 => ?_)
    · refine bX11_highOf_27 ?_
      refine bX11_highOf_28 (c_X11_unitOf ok) ?_
      rintro h1 v ⟨rfl, rfl⟩
      refine bX11_highOf_31 ?_
      exact ⟨_, rfl, rfl, by simp_all [s_hi, lN_add, s_unit]; try rfl⟩
    · refine bX11_highOf_23 ?_
      refine bX11_highOf_28 (c_X11_unitOf ok) ?_
      rintro h1 v ⟨rfl, rfl⟩
      refine bX11_highOf_31 ?_
      exact ⟨_, rfl, rfl, by simp_all [s_hi, lN_add, s_unit]; try rfl⟩
  · refine bX11_highOf_7 ?_
    exact ⟨_, rfl, rfl, by simp_all [s_hi, lN_add, s_unit]; try rfl⟩
def s_byte (n p : Int32) : Int32 := if p = 0 then (if n < 0 then 1 else 2) else if p = 1 then (if n < 0 then n + 1000 else n) / 100 else (if n < 0 then n + 1000 else n) - (if n < 0 then n + 1000 else n) / 100 * 100
theorem c_X11_byteOf (ok : k_ok G l) {h : k_H} {n p : Int32} : k_cti (tX11_byteOf G l) [vI n, vI p] h (fun h' v => h' = h ∧ v = s_byte n p) := by
  refine k_cti_of (eX11_byteOf ok.2 ?_)
  refine bX11_byteOf_0 (fun c1 => ?_) (fun c2 => ?_)
  · refine bX11_byteOf_14 (fun c3 => ?_) (fun c4 => ?_)
    · refine bX11_byteOf_26 ?_
      refine bX11_byteOf_27 (fun c5 => ?_) (fun c6 => ?_)
      · refine bX11_byteOf_40 ?_
        refine bX11_byteOf_44 ?_
        exact ⟨_, rfl, rfl, by simp_all [s_byte, ← Int32.not_lt]⟩
      · refine bX11_byteOf_33 ?_
        refine bX11_byteOf_44 ?_
        exact ⟨_, rfl, rfl, by simp_all [s_byte, ← Int32.not_lt]⟩
    · refine bX11_byteOf_18 ?_
      refine bX11_byteOf_27 (fun c7 => ?_) (fun c8 => ?_)
      · refine bX11_byteOf_40 ?_
        refine bX11_byteOf_44 ?_
        exact ⟨_, rfl, rfl, by simp_all [s_byte, ← Int32.not_lt]⟩
      · refine bX11_byteOf_33 ?_
        refine bX11_byteOf_44 ?_
        exact ⟨_, rfl, rfl, by simp_all [s_byte, ← Int32.not_lt]⟩
  · refine bX11_byteOf_4 (fun c9 => ?_) (fun c10 => ?_)
    · refine bX11_byteOf_12 ?_
      refine bX11_byteOf_13 ?_
      exact ⟨_, rfl, rfl, by simp_all [s_byte, ← Int32.not_lt]⟩
    · refine bX11_byteOf_8 ?_
      refine bX11_byteOf_13 ?_
      exact ⟨_, rfl, rfl, by simp_all [s_byte, ← Int32.not_lt]⟩
theorem c_X11_requireKey (ok : k_ok G l) {h : k_H} {a b c : Int32} (hc : s_keyB a b c = true) : k_ctv (tX11_requireKey G l) [vI a, vI b, vI c] h (fun h' => h' = h) := by
  refine k_ctv_of (eX11_requireKey ok.2 ?_)
  refine bX11_requireKey_0 (c_X11_isKey ok) ?_
  rintro h1 v ⟨rfl, rfl⟩
  refine bX11_requireKey_6 (fun c1 => ?_) (fun c2 => ?_)
  · refine bX11_requireKey_20 ?_
    first | exact ⟨rfl, rfl⟩ | (exfalso; simp_all [kB_0, kB_n0])
  · refine bX11_requireKey_9 ?_
    first | exact ⟨rfl, rfl⟩ | (exfalso; simp_all [kB_0, kB_n0])
theorem x_X11_requireKey (ok : k_ok G l) {h : k_H} {a b c : Int32} (hc : s_keyB a b c = false) : k_ctx (tX11_requireKey G l) [vI a, vI b, vI c] h "java/lang/IllegalArgumentException" (fun h' => h' = k_sk h 1 6) := by
  refine k_ctx_of (eX11_requireKey ok.2 ?_)
  refine bX11_requireKey_0 (c_X11_isKey ok) ?_
  rintro h1 v ⟨rfl, rfl⟩
  refine bX11_requireKey_6 (fun c1 => ?_) (fun c2 => ?_)
  · refine bX11_requireKey_20 ?_
    first | exact ⟨rfl, rfl⟩ | (exfalso; simp_all [kB_0, kB_n0])
  · refine bX11_requireKey_9 ?_
    first | exact ⟨rfl, rfl⟩ | (exfalso; simp_all [kB_0, kB_n0])
theorem c_X11_requireRange (ok : k_ok G l) {h : k_H} {a b : Int32} (hc : s_rngB a b = true) : k_ctv (tX11_requireRange G l) [vI a, vI b] h (fun h' => h' = h) := by
  refine k_ctv_of (eX11_requireRange ok.2 ?_)
  refine bX11_requireRange_0 (c_X11_isRange ok) ?_
  rintro h1 v ⟨rfl, rfl⟩
  refine bX11_requireRange_5 (fun c1 => ?_) (fun c2 => ?_)
  · refine bX11_requireRange_19 ?_
    first | exact ⟨rfl, rfl⟩ | (exfalso; simp_all [kB_0, kB_n0])
  · refine bX11_requireRange_8 ?_
    first | exact ⟨rfl, rfl⟩ | (exfalso; simp_all [kB_0, kB_n0])
theorem x_X11_requireRange (ok : k_ok G l) {h : k_H} {a b : Int32} (hc : s_rngB a b = false) : k_ctx (tX11_requireRange G l) [vI a, vI b] h "java/lang/IllegalArgumentException" (fun h' => h' = k_sk h 1 6) := by
  refine k_ctx_of (eX11_requireRange ok.2 ?_)
  refine bX11_requireRange_0 (c_X11_isRange ok) ?_
  rintro h1 v ⟨rfl, rfl⟩
  refine bX11_requireRange_5 (fun c1 => ?_) (fun c2 => ?_)
  · refine bX11_requireRange_19 ?_
    first | exact ⟨rfl, rfl⟩ | (exfalso; simp_all [kB_0, kB_n0])
  · refine bX11_requireRange_8 ?_
    first | exact ⟨rfl, rfl⟩ | (exfalso; simp_all [kB_0, kB_n0])
theorem c_X11_requireIndex (ok : k_ok G l) {h : k_H} {i : Int32} (hc : 0 ≤ i ∧ i < 3) : k_ctv (tX11_requireIndex G l) [vI i] h (fun h' => h' = h) := by
  refine k_ctv_of (eX11_requireIndex ok.2 ?_)
  refine bX11_requireIndex_0 (fun c1 => ?_) (fun c2 => ?_)
  · refine bX11_requireIndex_9 ?_
    first | exact ⟨rfl, rfl⟩ | (exfalso; simp_all [← Int32.not_lt])
  · refine bX11_requireIndex_4 (fun c3 => ?_) (fun c4 => ?_)
    · refine bX11_requireIndex_20 ?_
      first | exact ⟨rfl, rfl⟩ | (exfalso; simp_all [← Int32.not_lt])
    · refine bX11_requireIndex_9 ?_
      first | exact ⟨rfl, rfl⟩ | (exfalso; simp_all [← Int32.not_lt])
theorem x_X11_requireIndex (ok : k_ok G l) {h : k_H} {i : Int32} (hc : ¬ (0 ≤ i ∧ i < 3)) : k_ctx (tX11_requireIndex G l) [vI i] h "java/lang/IndexOutOfBoundsException" (fun h' => h' = k_sk h 1 6) := by
  refine k_ctx_of (eX11_requireIndex ok.2 ?_)
  refine bX11_requireIndex_0 (fun c1 => ?_) (fun c2 => ?_)
  · refine bX11_requireIndex_9 ?_
    first | exact ⟨rfl, rfl⟩ | (exfalso; simp_all [← Int32.not_lt])
  · refine bX11_requireIndex_4 (fun c3 => ?_) (fun c4 => ?_)
    · refine bX11_requireIndex_20 ?_
      first | exact ⟨rfl, rfl⟩ | (exfalso; simp_all [← Int32.not_lt])
    · refine bX11_requireIndex_9 ?_
      first | exact ⟨rfl, rfl⟩ | (exfalso; simp_all [← Int32.not_lt])
theorem c_X11_requireWorker (ok : k_ok G l) {h : k_H} {i : Int32} (hc : 0 ≤ i ∧ i < 3) : k_ctv (tX11_requireWorker G l) [vI i] h (fun h' => h' = h) := by
  refine k_ctv_of (eX11_requireWorker ok.2 ?_)
  refine bX11_requireWorker_0 (fun c1 => ?_) (fun c2 => ?_)
  · refine bX11_requireWorker_9 ?_
    first | exact ⟨rfl, rfl⟩ | (exfalso; simp_all [← Int32.not_lt])
  · refine bX11_requireWorker_4 (fun c3 => ?_) (fun c4 => ?_)
    · refine bX11_requireWorker_20 ?_
      first | exact ⟨rfl, rfl⟩ | (exfalso; simp_all [← Int32.not_lt])
    · refine bX11_requireWorker_9 ?_
      first | exact ⟨rfl, rfl⟩ | (exfalso; simp_all [← Int32.not_lt])
theorem x_X11_requireWorker (ok : k_ok G l) {h : k_H} {i : Int32} (hc : ¬ (0 ≤ i ∧ i < 3)) : k_ctx (tX11_requireWorker G l) [vI i] h "java/lang/IndexOutOfBoundsException" (fun h' => h' = k_sk h 1 6) := by
  refine k_ctx_of (eX11_requireWorker ok.2 ?_)
  refine bX11_requireWorker_0 (fun c1 => ?_) (fun c2 => ?_)
  · refine bX11_requireWorker_9 ?_
    first | exact ⟨rfl, rfl⟩ | (exfalso; simp_all [← Int32.not_lt])
  · refine bX11_requireWorker_4 (fun c3 => ?_) (fun c4 => ?_)
    · refine bX11_requireWorker_20 ?_
      first | exact ⟨rfl, rfl⟩ | (exfalso; simp_all [← Int32.not_lt])
    · refine bX11_requireWorker_9 ?_
      first | exact ⟨rfl, rfl⟩ | (exfalso; simp_all [← Int32.not_lt])
theorem c_X11_requireAboveLayers (ok : k_ok G l) {h : k_H} {a : Int32} (hc : ¬ (-7 ≤ a ∧ a ≤ -1)) : k_ctv (tX11_requireAboveLayers G l) [vI a] h (fun h' => h' = h) := by
  refine k_ctv_of (eX11_requireAboveLayers ok.2 ?_)
  refine bX11_requireAboveLayers_0 (fun c1 => ?_) (fun c2 => ?_)
  · refine bX11_requireAboveLayers_22 ?_
    first | exact ⟨rfl, rfl⟩ | (exfalso; simp_all [← Int32.not_lt])
  · refine bX11_requireAboveLayers_6 (fun c3 => ?_) (fun c4 => ?_)
    · refine bX11_requireAboveLayers_22 ?_
      first | exact ⟨rfl, rfl⟩ | (exfalso; simp_all [← Int32.not_lt])
    · refine bX11_requireAboveLayers_11 ?_
      first | exact ⟨rfl, rfl⟩ | (exfalso; simp_all [← Int32.not_lt])
theorem x_X11_requireAboveLayers (ok : k_ok G l) {h : k_H} {a : Int32} (hc : ¬ (¬ (-7 ≤ a ∧ a ≤ -1))) : k_ctx (tX11_requireAboveLayers G l) [vI a] h "java/lang/IllegalArgumentException" (fun h' => h' = k_sk h 1 6) := by
  refine k_ctx_of (eX11_requireAboveLayers ok.2 ?_)
  refine bX11_requireAboveLayers_0 (fun c1 => ?_) (fun c2 => ?_)
  · refine bX11_requireAboveLayers_22 ?_
    first | exact ⟨rfl, rfl⟩ | (exfalso; simp_all [← Int32.not_lt])
  · refine bX11_requireAboveLayers_6 (fun c3 => ?_) (fun c4 => ?_)
    · refine bX11_requireAboveLayers_22 ?_
      first | exact ⟨rfl, rfl⟩ | (exfalso; simp_all [← Int32.not_lt])
    · refine bX11_requireAboveLayers_11 ?_
      first | exact ⟨rfl, rfl⟩ | (exfalso; simp_all [← Int32.not_lt])
theorem c_X11_requireName (ok : k_ok G l) {h : k_H} {n : Int32} (hc : 0 ≤ n ∧ n ≤ 9) : k_ctv (tX11_requireName G l) [vI n] h (fun h' => h' = h) := by
  refine k_ctv_of (eX11_requireName ok.2 ?_)
  refine bX11_requireName_0 (fun c1 => ?_) (fun c2 => ?_)
  · refine bX11_requireName_10 ?_
    first | exact ⟨rfl, rfl⟩ | (exfalso; simp_all [← Int32.not_lt])
  · refine bX11_requireName_4 (fun c3 => ?_) (fun c4 => ?_)
    · refine bX11_requireName_21 ?_
      first | exact ⟨rfl, rfl⟩ | (exfalso; simp_all [← Int32.not_lt])
    · refine bX11_requireName_10 ?_
      first | exact ⟨rfl, rfl⟩ | (exfalso; simp_all [← Int32.not_lt])
theorem x_X11_requireName (ok : k_ok G l) {h : k_H} {n : Int32} (hc : ¬ (0 ≤ n ∧ n ≤ 9)) : k_ctx (tX11_requireName G l) [vI n] h "java/lang/IllegalArgumentException" (fun h' => h' = k_sk h 1 6) := by
  refine k_ctx_of (eX11_requireName ok.2 ?_)
  refine bX11_requireName_0 (fun c1 => ?_) (fun c2 => ?_)
  · refine bX11_requireName_10 ?_
    first | exact ⟨rfl, rfl⟩ | (exfalso; simp_all [← Int32.not_lt])
  · refine bX11_requireName_4 (fun c3 => ?_) (fun c4 => ?_)
    · refine bX11_requireName_21 ?_
      first | exact ⟨rfl, rfl⟩ | (exfalso; simp_all [← Int32.not_lt])
    · refine bX11_requireName_10 ?_
      first | exact ⟨rfl, rfl⟩ | (exfalso; simp_all [← Int32.not_lt])
theorem c_X11_requireRecord (ok : k_ok G l) {h : k_H} {n : Int32} (hc : 0 ≤ n ∧ n ≤ 99) : k_ctv (tX11_requireRecord G l) [vI n] h (fun h' => h' = h) := by
  refine k_ctv_of (eX11_requireRecord ok.2 ?_)
  refine bX11_requireRecord_0 (fun c1 => ?_) (fun c2 => ?_)
  · refine bX11_requireRecord_10 ?_
    first | exact ⟨rfl, rfl⟩ | (exfalso; simp_all [← Int32.not_lt])
  · refine bX11_requireRecord_4 (fun c3 => ?_) (fun c4 => ?_)
    · refine bX11_requireRecord_21 ?_
      first | exact ⟨rfl, rfl⟩ | (exfalso; simp_all [← Int32.not_lt])
    · refine bX11_requireRecord_10 ?_
      first | exact ⟨rfl, rfl⟩ | (exfalso; simp_all [← Int32.not_lt])
theorem x_X11_requireRecord (ok : k_ok G l) {h : k_H} {n : Int32} (hc : ¬ (0 ≤ n ∧ n ≤ 99)) : k_ctx (tX11_requireRecord G l) [vI n] h "java/lang/IllegalArgumentException" (fun h' => h' = k_sk h 1 6) := by
  refine k_ctx_of (eX11_requireRecord ok.2 ?_)
  refine bX11_requireRecord_0 (fun c1 => ?_) (fun c2 => ?_)
  · refine bX11_requireRecord_10 ?_
    first | exact ⟨rfl, rfl⟩ | (exfalso; simp_all [← Int32.not_lt])
  · refine bX11_requireRecord_4 (fun c3 => ?_) (fun c4 => ?_)
    · refine bX11_requireRecord_21 ?_
      first | exact ⟨rfl, rfl⟩ | (exfalso; simp_all [← Int32.not_lt])
    · refine bX11_requireRecord_10 ?_
      first | exact ⟨rfl, rfl⟩ | (exfalso; simp_all [← Int32.not_lt])
theorem c_X11_requireField (ok : k_ok G l) {h : k_H} {n : Int32} (hc : 0 ≤ n ∧ n ≤ 99) : k_ctv (tX11_requireField G l) [vI n] h (fun h' => h' = h) := by
  refine k_ctv_of (eX11_requireField ok.2 ?_)
  refine bX11_requireField_0 (fun c1 => ?_) (fun c2 => ?_)
  · refine bX11_requireField_10 ?_
    first | exact ⟨rfl, rfl⟩ | (exfalso; simp_all [← Int32.not_lt])
  · refine bX11_requireField_4 (fun c3 => ?_) (fun c4 => ?_)
    · refine bX11_requireField_21 ?_
      first | exact ⟨rfl, rfl⟩ | (exfalso; simp_all [← Int32.not_lt])
    · refine bX11_requireField_10 ?_
      first | exact ⟨rfl, rfl⟩ | (exfalso; simp_all [← Int32.not_lt])
theorem x_X11_requireField (ok : k_ok G l) {h : k_H} {n : Int32} (hc : ¬ (0 ≤ n ∧ n ≤ 99)) : k_ctx (tX11_requireField G l) [vI n] h "java/lang/IllegalArgumentException" (fun h' => h' = k_sk h 1 6) := by
  refine k_ctx_of (eX11_requireField ok.2 ?_)
  refine bX11_requireField_0 (fun c1 => ?_) (fun c2 => ?_)
  · refine bX11_requireField_10 ?_
    first | exact ⟨rfl, rfl⟩ | (exfalso; simp_all [← Int32.not_lt])
  · refine bX11_requireField_4 (fun c3 => ?_) (fun c4 => ?_)
    · refine bX11_requireField_21 ?_
      first | exact ⟨rfl, rfl⟩ | (exfalso; simp_all [← Int32.not_lt])
    · refine bX11_requireField_10 ?_
      first | exact ⟨rfl, rfl⟩ | (exfalso; simp_all [← Int32.not_lt])
end ST
end
section
/-! STATIC METHODS, II: of the reference; a number put into a code -/
theorem s_naB {x : Int32} (h : (decide (x = 10000) || s_nmB x) = true) : s_na x := by
  rcases Bool.or_eq_true_iff.mp h with h | h
  · exact Or.inl (of_decide_eq_true h)
  · exact Or.inr (s_nmB_iff.mp h)
theorem s_no_na (n k : Nat) : s_na (s_no n k) := (s_un_na (s_dig_lt n k)).1
section ST2
variable {G : k_G} {l : Launch}
def s_inB (v a b : Int32) : Bool := decide (¬ v < a) && decide (¬ b < v)
/-- the last code of a range -/
def s_la (a b : Int32) : Nat := if a = 10000 then 1331000000000 else s_hi a b - 1
theorem s_la_1 {d : Nat} : ((((lN d + 1) * 11000) * 11000) - 1 : Int64) = lN ((d * 11000 + 0) * 11000 + 0 + 121000000 - 1) := by
  rw [show (11000 : Int64) = lN 11000 from rfl, show (1 : Int64) = lN 1 from rfl, lN_add, lN_mul, lN_mul, lN_sub (by omega)]
  exact congrArg lN (by omega)
theorem s_la_2 {d e : Nat} : (((lN d * 11000 + lN e) + 1) * 11000 - 1 : Int64) = lN ((d * 11000 + e) * 11000 + 0 + 11000 - 1) := by
  rw [show (11000 : Int64) = lN 11000 from rfl, show (1 : Int64) = lN 1 from rfl, lN_mul, lN_add, lN_add, lN_mul, lN_sub (by omega)]
  exact congrArg lN (by omega)
def s_goes (st n : Int32) : Bool := decide (st = -2147483648) || decide (¬ st = -1000) && decide (n ≤ st)
theorem c_X11_indexGoesTo (ok : k_ok G l) {h : k_H} {st : Int32} : k_cti (tX11_indexGoesTo G l) [vI st] h (fun h' v => h' = h ∧ v = (if st = -2147483648 then 1000 else st)) := by
  refine k_cti_of (eX11_indexGoesTo ok.2 ?_)
  refine bX11_indexGoesTo_0 (fun c1 => ?_) (fun c2 => ?_)
  · refine bX11_indexGoesTo_12 ?_
    refine bX11_indexGoesTo_13 ?_
    exact ⟨_, rfl, rfl, by simp_all⟩
  · refine bX11_indexGoesTo_6 ?_
    refine bX11_indexGoesTo_13 ?_
    exact ⟨_, rfl, rfl, by simp_all⟩
/-- a number put into a code -/
def s_with (n k : Nat) (x : Int32) : Nat := s_cd (if k = 0 then x else s_no n 0) (if k = 1 then x else s_no n 1) (if k = 2 then x else s_no n 2)
theorem n_w0 (a b c : Nat) : b * 11000 + c + a * 121000000 = (a * 11000 + b) * 11000 + c := by omega
theorem n_w1 (a b c : Nat) : a * 121000000 + c + b * 11000 = (a * 11000 + b) * 11000 + c := by omega
theorem n_w2 (a b c : Nat) : a * 121000000 + b * 11000 + c * 1 = (a * 11000 + b) * 11000 + c := by omega
theorem l_ring {a r d x u : Int64} (h : a = r + d * u) : a + (x - d) * u = r + x * u := by rw [h, Int64.sub_mul, Int64.add_assoc, Int64.add_comm (d * u), Int64.sub_add_cancel]
theorem s_with_long {n : Nat} {p x : Int32} (hn : n < 1331000000000) (hx : s_na x) : lN n + (lN (s_dg x) - lN (s_dg (s_no n (s_pl p)))) * lN (s_unit p) = lN (s_with n (s_pl p) x) := by
  have h0 := (s_un_na (s_dig_lt n 0)).2
  have h1 := (s_un_na (s_dig_lt n 1)).2
  have h2 := (s_un_na (s_dig_lt n 2)).2
  have hd := s_cd_dig hn
  by_cases c0 : p = 0
  · have e1 : s_pl p = 0 := by unfold s_pl; rw [if_pos c0]
    have e2 : s_unit p = 121000000 := by unfold s_unit; rw [if_pos c0]
    rw [e1, e2]
    have e3 : s_dg (s_no n 0) = s_dig n 0 := h0
    have e4 : lN n = lN (s_dig n 1 * 11000 + s_dig n 2) + lN (s_dig n 0) * lN 121000000 := by rw [lN_mul, lN_add]; exact congrArg lN (by omega)
    rw [e3, l_ring e4, lN_mul, lN_add]
    refine congrArg lN ?_
    show _ = (s_dg x * 11000 + s_dg (s_no n 1)) * 11000 + s_dg (s_no n 2)
    rw [show s_dg (s_no n 1) = s_dig n 1 from h1, show s_dg (s_no n 2) = s_dig n 2 from h2]
    exact n_w0 _ _ _
  · by_cases c1 : p = 1
    · have e1 : s_pl p = 1 := by unfold s_pl; rw [if_neg c0, if_pos c1]
      have e2 : s_unit p = 11000 := by unfold s_unit; rw [if_neg c0, if_pos c1]
      rw [e1, e2]
      have e3 : s_dg (s_no n 1) = s_dig n 1 := h1
      have e4 : lN n = lN (s_dig n 0 * 121000000 + s_dig n 2) + lN (s_dig n 1) * lN 11000 := by rw [lN_mul, lN_add]; exact congrArg lN (by omega)
      rw [e3, l_ring e4, lN_mul, lN_add]
      refine congrArg lN ?_
      show _ = (s_dg (s_no n 0) * 11000 + s_dg x) * 11000 + s_dg (s_no n 2)
      rw [show s_dg (s_no n 0) = s_dig n 0 from h0, show s_dg (s_no n 2) = s_dig n 2 from h2]
      exact n_w1 _ _ _
    · have e1 : s_pl p = 2 := by unfold s_pl; rw [if_neg c0, if_neg c1]
      have e2 : s_unit p = 1 := by unfold s_unit; rw [if_neg c0, if_neg c1]
      rw [e1, e2]
      have e3 : s_dg (s_no n 2) = s_dig n 2 := h2
      have e4 : lN n = lN (s_dig n 0 * 121000000 + s_dig n 1 * 11000) + lN (s_dig n 2) * lN 1 := by rw [lN_mul, lN_add]; exact congrArg lN (by omega)
      rw [e3, l_ring e4, lN_mul, lN_add]
      refine congrArg lN ?_
      show _ = (s_dg (s_no n 0) * 11000 + s_dg (s_no n 1)) * 11000 + s_dg x
      rw [show s_dg (s_no n 0) = s_dig n 0 from h0, show s_dg (s_no n 1) = s_dig n 1 from h1]
      exact n_w2 _ _ _
theorem c_X11_withNumber (ok : k_ok G l) {h : k_H} {n : Nat} {p x : Int32} (hn : n < 1331000000000) (hx : s_na x) : k_ctj (tX11_withNumber G l) [vJ (lN n), vI p, vI x] h (fun h' v => h' = h ∧ v = lN (s_with n (s_pl p) x)) := by
  refine k_ctj_of (eX11_withNumber ok.2 ?_)
  refine bX11_withNumber_0 (c_X11_digitOf ok (by assumption)) ?_
  rintro h1 v ⟨rfl, rfl⟩
  refine bX11_withNumber_5 (c_X11_numberOf ok (by assumption)) ?_
  rintro h1 v ⟨rfl, rfl⟩
  refine bX11_withNumber_10 (c_X11_digitOf ok (s_no_na _ _)) ?_
  rintro h1 v ⟨rfl, rfl⟩
  refine bX11_withNumber_13 (c_X11_unitOf ok) ?_
  rintro h1 v ⟨rfl, rfl⟩
  refine bX11_withNumber_18 ?_
  exact ⟨_, rfl, rfl, s_with_long hn hx⟩
/-- which number of a stamped key is stamped, by the reference -/
def s_stp (kind : Int32) (n : Nat) : Nat := if kind = 8 then 1 else if s_no n 1 = 10000 then 0 else if s_no n 2 = 10000 then 1 else 2
end ST2
end
section
/-! SMALL OBJECTS: cells, changes, entries, keys, spans -/
theorem kd_ne {k : Int32} (h : k.toInt < 1 ∨ 5 < k.toInt) : ¬ k = 1 ∧ ¬ k = 2 ∧ ¬ k = 3 ∧ ¬ k = 4 ∧ ¬ k = 5 := by
  refine ⟨?_, ?_, ?_, ?_, ?_⟩ <;> (rintro rfl; revert h; decide)
/-- what a change makes of a value -/
def ap_v (k g s p v : Int32) : Int32 := if k = 1 then 0 else if k = 2 then (if p = 0 then g else v + g) else if k = 3 then (if p = 0 then g else if v < g then g else v) else if k = 4 then (if p = 0 then g else if g < v then g else v) else if k = 5 then s else g
def ap_s (k q : Int32) : Int32 := if k = 5 then 1 else if q = 0 then 0 else if k = 0 then 0 else if k = 1 then 0 else 1
def ap_p (k : Int32) : Int32 := if k = 1 then 0 else 1
section SO
variable {G : k_G} {l : Launch}
theorem c_X0_loadN (ok : k_ok G l) {h : k_H} {a : Nat} {p q v : Int32} (ho : h.1 a = some (k_o 3 [vI p, vI q, vI v])) : k_ctv (tX0_load G l) [vR (some a), vR none] h (fun h' => h' = k_up h a (k_o 3 [vI 0, vI 0, vI 0])) := by
  refine k_ctv_of (eX0_load ok.2 (bX0_load_0 (fun _ => ?_) (fun b hb => by cases hb)))
  refine bX0_load_16 (bX0_load_17 ho (Or.inl rfl) rfl (bX0_load_20 (fun _ => ?_) (fun b hb => by cases hb)))
  refine bX0_load_39 (bX0_load_40 (k_up_self _ _ _) rfl (bX0_load_43 (k_up_self _ _ _) rfl (bX0_load_48 ⟨rfl, ?_⟩)))
  rw [k_uu, k_uu]
  rfl
theorem c_X0_loadS (ok : k_ok G l) {h : k_H} {a e : Nat} {p q v : Int32} {o : Option Int32} {f0 f1 f2 f3 : k_V} (ho : h.1 a = some (k_o 3 [vI p, vI q, vI v])) (he : h.1 e = some (k_o 6 [f0, f1, f2, f3, vI (kB o.isSome), vI (o.getD 0)])) : k_ctv (tX0_load G l) [vR (some a), vR (some e)] h (fun h' => h' = k_up h a (k_o 3 [vI (kB o.isSome), vI 0, vI (o.getD 0)])) := by
  have hne : e ≠ a := fun z => by subst z; rw [ho] at he; cases he
  have he2 : ∀ c, (k_up h a c).1 e = some (k_o 6 [f0, f1, f2, f3, vI (kB o.isSome), vI (o.getD 0)]) := fun c => by rw [k_up_ne _ _ hne]; exact he
  refine k_ctv_of (eX0_load ok.2 (bX0_load_0 (fun c => by cases c) (fun b hb => ?_)))
  cases hb
  cases o with
  | none =>
    refine bX0_load_5 he rfl (fun _ => ?_) (fun c => absurd rfl c)
    refine bX0_load_16 (bX0_load_17 ho (Or.inl rfl) rfl (bX0_load_20 (fun c => by cases c) (fun b hb => ?_)))
    cases hb
    refine bX0_load_25 (he2 _) rfl (fun _ => ?_) (fun c => absurd rfl c)
    refine bX0_load_39 (bX0_load_40 (k_up_self _ _ _) rfl (bX0_load_43 (k_up_self _ _ _) rfl (bX0_load_48 ⟨rfl, ?_⟩)))
    rw [k_uu, k_uu]
    rfl
  | some w =>
    refine bX0_load_5 he rfl (fun c => absurd c (kB_n0.mpr rfl)) (fun _ => ?_)
    refine bX0_load_12 (bX0_load_17 ho (Or.inr rfl) rfl (bX0_load_20 (fun c => by cases c) (fun b hb => ?_)))
    cases hb
    refine bX0_load_25 (he2 _) rfl (fun c => absurd c (kB_n0.mpr rfl)) (fun _ => ?_)
    refine bX0_load_32 (he2 _) rfl ?_
    refine bX0_load_40 (k_up_self _ _ _) rfl (bX0_load_43 (k_up_self _ _ _) rfl (bX0_load_48 ⟨rfl, ?_⟩))
    rw [k_uu, k_uu]
    rfl
theorem c_X0_told (ok : k_ok G l) {h : k_H} {a : Nat} {p q v : Int32} (ho : h.1 a = some (k_o 3 [vI p, vI q, vI v])) : k_cti (tX0_told G l) [vR (some a)] h (fun h' w => h' = h ∧ w = if p = 0 then -2147483648 else v) := by
  refine k_cti_of (eX0_told ok.2 ?_)
  refine bX0_told_0 ho rfl (fun c1 => ?_) (fun c2 => ?_)
  · refine bX0_told_14 ?_
    refine bX0_told_16 ?_
    exact ⟨_, rfl, rfl, by simp_all⟩
  · refine bX0_told_7 ho rfl ?_
    refine bX0_told_16 ?_
    exact ⟨_, rfl, rfl, by simp_all⟩
theorem c_X0_apply (ok : k_ok G l) {h : k_H} {a : Nat} {p q v k g s : Int32} (ho : h.1 a = some (k_o 3 [vI p, vI q, vI v])) : k_ctv (tX0_apply G l) [vR (some a), vI k, vI g, vI s] h (fun h' => h' = k_up h a (k_o 3 [vI (ap_p k), vI (ap_s k q), vI (ap_v k g s p v)])) := by
  refine k_ctv_of (eX0_apply ok.2 ?_)
  refine bX0_apply_0 (fun c1 => ?_) (fun c2 => ?_) (fun c3 => ?_) (fun c4 => ?_) (fun c5 => ?_) (fun c6 => ?_)
  · refine bX0_apply_36 ho rfl ?_
    refine bX0_apply_41 ?_
    refine bX0_apply_133 (fun c7 => ?_) (fun c8 => ?_)
    · refine bX0_apply_155 ?_
      refine bX0_apply_160 (k_up_self _ _ _) (by first | exact Or.inl rfl | exact Or.inr rfl | exact kP_bl _) rfl ?_
      refine bX0_apply_163 (fun c9 => ?_) (fun c10 => ?_)
      · refine bX0_apply_173 ?_
        refine bX0_apply_174 (k_up_self _ _ _) (by first | exact Or.inl rfl | exact Or.inr rfl | exact kP_bl _) rfl ?_
        refine bX0_apply_177 ?_
        (try have n9 := kd_ne c6); first | (exfalso; simp_all; done) | (refine ⟨rfl, ?_⟩; rw [k_uu, k_uu]; simp_all [List.set, ap_v, ap_s, ap_p]; done)
      · refine bX0_apply_169 ?_
        refine bX0_apply_174 (k_up_self _ _ _) (by first | exact Or.inl rfl | exact Or.inr rfl | exact kP_bl _) rfl ?_
        refine bX0_apply_177 ?_
        (try have n9 := kd_ne c6); first | (exfalso; simp_all; done) | (refine ⟨rfl, ?_⟩; rw [k_uu, k_uu]; simp_all [List.set, ap_v, ap_s, ap_p]; done)
    · refine bX0_apply_139 (k_up_self _ _ _) rfl (fun c11 => ?_) (fun c12 => ?_)
      · refine bX0_apply_159 ?_
        refine bX0_apply_160 (k_up_self _ _ _) (by first | exact Or.inl rfl | exact Or.inr rfl | exact kP_bl _) rfl ?_
        refine bX0_apply_163 (fun c13 => ?_) (fun c14 => ?_)
        · refine bX0_apply_173 ?_
          refine bX0_apply_174 (k_up_self _ _ _) (by first | exact Or.inl rfl | exact Or.inr rfl | exact kP_bl _) rfl ?_
          refine bX0_apply_177 ?_
          (try have n9 := kd_ne c6); first | (exfalso; simp_all; done) | (refine ⟨rfl, ?_⟩; rw [k_uu, k_uu]; simp_all [List.set, ap_v, ap_s, ap_p]; done)
        · refine bX0_apply_169 ?_
          refine bX0_apply_174 (k_up_self _ _ _) (by first | exact Or.inl rfl | exact Or.inr rfl | exact kP_bl _) rfl ?_
          refine bX0_apply_177 ?_
          (try have n9 := kd_ne c6); first | (exfalso; simp_all; done) | (refine ⟨rfl, ?_⟩; rw [k_uu, k_uu]; simp_all [List.set, ap_v, ap_s, ap_p]; done)
      · refine bX0_apply_146 (fun c15 => ?_) (fun c16 => ?_)
        · refine bX0_apply_159 ?_
          refine bX0_apply_160 (k_up_self _ _ _) (by first | exact Or.inl rfl | exact Or.inr rfl | exact kP_bl _) rfl ?_
          refine bX0_apply_163 (fun c17 => ?_) (fun c18 => ?_)
          · refine bX0_apply_173 ?_
            refine bX0_apply_174 (k_up_self _ _ _) (by first | exact Or.inl rfl | exact Or.inr rfl | exact kP_bl _) rfl ?_
            refine bX0_apply_177 ?_
            (try have n9 := kd_ne c6); first | (exfalso; simp_all; done) | (refine ⟨rfl, ?_⟩; rw [k_uu, k_uu]; simp_all [List.set, ap_v, ap_s, ap_p]; done)
          · refine bX0_apply_169 ?_
            refine bX0_apply_174 (k_up_self _ _ _) (by first | exact Or.inl rfl | exact Or.inr rfl | exact kP_bl _) rfl ?_
            refine bX0_apply_177 ?_
            (try have n9 := kd_ne c6); first | (exfalso; simp_all; done) | (refine ⟨rfl, ?_⟩; rw [k_uu, k_uu]; simp_all [List.set, ap_v, ap_s, ap_p]; done)
        · refine bX0_apply_150 (fun c19 => ?_) (fun c20 => ?_)
          · refine bX0_apply_159 ?_
            refine bX0_apply_160 (k_up_self _ _ _) (by first | exact Or.inl rfl | exact Or.inr rfl | exact kP_bl _) rfl ?_
            refine bX0_apply_163 (fun c21 => ?_) (fun c22 => ?_)
            · refine bX0_apply_173 ?_
              refine bX0_apply_174 (k_up_self _ _ _) (by first | exact Or.inl rfl | exact Or.inr rfl | exact kP_bl _) rfl ?_
              refine bX0_apply_177 ?_
              (try have n9 := kd_ne c6); first | (exfalso; simp_all; done) | (refine ⟨rfl, ?_⟩; rw [k_uu, k_uu]; simp_all [List.set, ap_v, ap_s, ap_p]; done)
            · refine bX0_apply_169 ?_
              refine bX0_apply_174 (k_up_self _ _ _) (by first | exact Or.inl rfl | exact Or.inr rfl | exact kP_bl _) rfl ?_
              refine bX0_apply_177 ?_
              (try have n9 := kd_ne c6); first | (exfalso; simp_all; done) | (refine ⟨rfl, ?_⟩; rw [k_uu, k_uu]; simp_all [List.set, ap_v, ap_s, ap_p]; done)
          · refine bX0_apply_155 ?_
            refine bX0_apply_160 (k_up_self _ _ _) (by first | exact Or.inl rfl | exact Or.inr rfl | exact kP_bl _) rfl ?_
            refine bX0_apply_163 (fun c23 => ?_) (fun c24 => ?_)
            · refine bX0_apply_173 ?_
              refine bX0_apply_174 (k_up_self _ _ _) (by first | exact Or.inl rfl | exact Or.inr rfl | exact kP_bl _) rfl ?_
              refine bX0_apply_177 ?_
              (try have n9 := kd_ne c6); first | (exfalso; simp_all; done) | (refine ⟨rfl, ?_⟩; rw [k_uu, k_uu]; simp_all [List.set, ap_v, ap_s, ap_p]; done)
            · refine bX0_apply_169 ?_
              refine bX0_apply_174 (k_up_self _ _ _) (by first | exact Or.inl rfl | exact Or.inr rfl | exact kP_bl _) rfl ?_
              refine bX0_apply_177 ?_
              (try have n9 := kd_ne c6); first | (exfalso; simp_all; done) | (refine ⟨rfl, ?_⟩; rw [k_uu, k_uu]; simp_all [List.set, ap_v, ap_s, ap_p]; done)
  · refine bX0_apply_44 ho rfl (fun c25 => ?_) (fun c26 => ?_)
    · refine bX0_apply_61 ?_
      refine bX0_apply_62 ho rfl ?_
      refine bX0_apply_65 ?_
      refine bX0_apply_133 (fun c27 => ?_) (fun c28 => ?_)
      · refine bX0_apply_155 ?_
        refine bX0_apply_160 (k_up_self _ _ _) (by first | exact Or.inl rfl | exact Or.inr rfl | exact kP_bl _) rfl ?_
        refine bX0_apply_163 (fun c29 => ?_) (fun c30 => ?_)
        · refine bX0_apply_173 ?_
          refine bX0_apply_174 (k_up_self _ _ _) (by first | exact Or.inl rfl | exact Or.inr rfl | exact kP_bl _) rfl ?_
          refine bX0_apply_177 ?_
          (try have n9 := kd_ne c6); first | (exfalso; simp_all; done) | (refine ⟨rfl, ?_⟩; rw [k_uu, k_uu]; simp_all [List.set, ap_v, ap_s, ap_p]; done)
        · refine bX0_apply_169 ?_
          refine bX0_apply_174 (k_up_self _ _ _) (by first | exact Or.inl rfl | exact Or.inr rfl | exact kP_bl _) rfl ?_
          refine bX0_apply_177 ?_
          (try have n9 := kd_ne c6); first | (exfalso; simp_all; done) | (refine ⟨rfl, ?_⟩; rw [k_uu, k_uu]; simp_all [List.set, ap_v, ap_s, ap_p]; done)
      · refine bX0_apply_139 (k_up_self _ _ _) rfl (fun c31 => ?_) (fun c32 => ?_)
        · refine bX0_apply_159 ?_
          refine bX0_apply_160 (k_up_self _ _ _) (by first | exact Or.inl rfl | exact Or.inr rfl | exact kP_bl _) rfl ?_
          refine bX0_apply_163 (fun c33 => ?_) (fun c34 => ?_)
          · refine bX0_apply_173 ?_
            refine bX0_apply_174 (k_up_self _ _ _) (by first | exact Or.inl rfl | exact Or.inr rfl | exact kP_bl _) rfl ?_
            refine bX0_apply_177 ?_
            (try have n9 := kd_ne c6); first | (exfalso; simp_all; done) | (refine ⟨rfl, ?_⟩; rw [k_uu, k_uu]; simp_all [List.set, ap_v, ap_s, ap_p]; done)
          · refine bX0_apply_169 ?_
            refine bX0_apply_174 (k_up_self _ _ _) (by first | exact Or.inl rfl | exact Or.inr rfl | exact kP_bl _) rfl ?_
            refine bX0_apply_177 ?_
            (try have n9 := kd_ne c6); first | (exfalso; simp_all; done) | (refine ⟨rfl, ?_⟩; rw [k_uu, k_uu]; simp_all [List.set, ap_v, ap_s, ap_p]; done)
        · refine bX0_apply_146 (fun c35 => ?_) (fun c36 => ?_)
          · refine bX0_apply_159 ?_
            refine bX0_apply_160 (k_up_self _ _ _) (by first | exact Or.inl rfl | exact Or.inr rfl | exact kP_bl _) rfl ?_
            refine bX0_apply_163 (fun c37 => ?_) (fun c38 => ?_)
            · refine bX0_apply_173 ?_
              refine bX0_apply_174 (k_up_self _ _ _) (by first | exact Or.inl rfl | exact Or.inr rfl | exact kP_bl _) rfl ?_
              refine bX0_apply_177 ?_
              (try have n9 := kd_ne c6); first | (exfalso; simp_all; done) | (refine ⟨rfl, ?_⟩; rw [k_uu, k_uu]; simp_all [List.set, ap_v, ap_s, ap_p]; done)
            · refine bX0_apply_169 ?_
              refine bX0_apply_174 (k_up_self _ _ _) (by first | exact Or.inl rfl | exact Or.inr rfl | exact kP_bl _) rfl ?_
              refine bX0_apply_177 ?_
              (try have n9 := kd_ne c6); first | (exfalso; simp_all; done) | (refine ⟨rfl, ?_⟩; rw [k_uu, k_uu]; simp_all [List.set, ap_v, ap_s, ap_p]; done)
          · refine bX0_apply_150 (fun c39 => ?_) (fun c40 => ?_)
            · refine bX0_apply_159 ?_
              refine bX0_apply_160 (k_up_self _ _ _) (by first | exact Or.inl rfl | exact Or.inr rfl | exact kP_bl _) rfl ?_
              refine bX0_apply_163 (fun c41 => ?_) (fun c42 => ?_)
              · refine bX0_apply_173 ?_
                refine bX0_apply_174 (k_up_self _ _ _) (by first | exact Or.inl rfl | exact Or.inr rfl | exact kP_bl _) rfl ?_
                refine bX0_apply_177 ?_
                (try have n9 := kd_ne c6); first | (exfalso; simp_all; done) | (refine ⟨rfl, ?_⟩; rw [k_uu, k_uu]; simp_all [List.set, ap_v, ap_s, ap_p]; done)
              · refine bX0_apply_169 ?_
                refine bX0_apply_174 (k_up_self _ _ _) (by first | exact Or.inl rfl | exact Or.inr rfl | exact kP_bl _) rfl ?_
                refine bX0_apply_177 ?_
                (try have n9 := kd_ne c6); first | (exfalso; simp_all; done) | (refine ⟨rfl, ?_⟩; rw [k_uu, k_uu]; simp_all [List.set, ap_v, ap_s, ap_p]; done)
            · refine bX0_apply_155 ?_
              refine bX0_apply_160 (k_up_self _ _ _) (by first | exact Or.inl rfl | exact Or.inr rfl | exact kP_bl _) rfl ?_
              refine bX0_apply_163 (fun c43 => ?_) (fun c44 => ?_)
              · refine bX0_apply_173 ?_
                refine bX0_apply_174 (k_up_self _ _ _) (by first | exact Or.inl rfl | exact Or.inr rfl | exact kP_bl _) rfl ?_
                refine bX0_apply_177 ?_
                (try have n9 := kd_ne c6); first | (exfalso; simp_all; done) | (refine ⟨rfl, ?_⟩; rw [k_uu, k_uu]; simp_all [List.set, ap_v, ap_s, ap_p]; done)
              · refine bX0_apply_169 ?_
                refine bX0_apply_174 (k_up_self _ _ _) (by first | exact Or.inl rfl | exact Or.inr rfl | exact kP_bl _) rfl ?_
                refine bX0_apply_177 ?_
                (try have n9 := kd_ne c6); first | (exfalso; simp_all; done) | (refine ⟨rfl, ?_⟩; rw [k_uu, k_uu]; simp_all [List.set, ap_v, ap_s, ap_p]; done)
    · refine bX0_apply_52 ho rfl ?_
      refine bX0_apply_62 ho rfl ?_
      refine bX0_apply_65 ?_
      refine bX0_apply_133 (fun c45 => ?_) (fun c46 => ?_)
      · refine bX0_apply_155 ?_
        refine bX0_apply_160 (k_up_self _ _ _) (by first | exact Or.inl rfl | exact Or.inr rfl | exact kP_bl _) rfl ?_
        refine bX0_apply_163 (fun c47 => ?_) (fun c48 => ?_)
        · refine bX0_apply_173 ?_
          refine bX0_apply_174 (k_up_self _ _ _) (by first | exact Or.inl rfl | exact Or.inr rfl | exact kP_bl _) rfl ?_
          refine bX0_apply_177 ?_
          (try have n9 := kd_ne c6); first | (exfalso; simp_all; done) | (refine ⟨rfl, ?_⟩; rw [k_uu, k_uu]; simp_all [List.set, ap_v, ap_s, ap_p]; done)
        · refine bX0_apply_169 ?_
          refine bX0_apply_174 (k_up_self _ _ _) (by first | exact Or.inl rfl | exact Or.inr rfl | exact kP_bl _) rfl ?_
          refine bX0_apply_177 ?_
          (try have n9 := kd_ne c6); first | (exfalso; simp_all; done) | (refine ⟨rfl, ?_⟩; rw [k_uu, k_uu]; simp_all [List.set, ap_v, ap_s, ap_p]; done)
      · refine bX0_apply_139 (k_up_self _ _ _) rfl (fun c49 => ?_) (fun c50 => ?_)
        · refine bX0_apply_159 ?_
          refine bX0_apply_160 (k_up_self _ _ _) (by first | exact Or.inl rfl | exact Or.inr rfl | exact kP_bl _) rfl ?_
          refine bX0_apply_163 (fun c51 => ?_) (fun c52 => ?_)
          · refine bX0_apply_173 ?_
            refine bX0_apply_174 (k_up_self _ _ _) (by first | exact Or.inl rfl | exact Or.inr rfl | exact kP_bl _) rfl ?_
            refine bX0_apply_177 ?_
            (try have n9 := kd_ne c6); first | (exfalso; simp_all; done) | (refine ⟨rfl, ?_⟩; rw [k_uu, k_uu]; simp_all [List.set, ap_v, ap_s, ap_p]; done)
          · refine bX0_apply_169 ?_
            refine bX0_apply_174 (k_up_self _ _ _) (by first | exact Or.inl rfl | exact Or.inr rfl | exact kP_bl _) rfl ?_
            refine bX0_apply_177 ?_
            (try have n9 := kd_ne c6); first | (exfalso; simp_all; done) | (refine ⟨rfl, ?_⟩; rw [k_uu, k_uu]; simp_all [List.set, ap_v, ap_s, ap_p]; done)
        · refine bX0_apply_146 (fun c53 => ?_) (fun c54 => ?_)
          · refine bX0_apply_159 ?_
            refine bX0_apply_160 (k_up_self _ _ _) (by first | exact Or.inl rfl | exact Or.inr rfl | exact kP_bl _) rfl ?_
            refine bX0_apply_163 (fun c55 => ?_) (fun c56 => ?_)
            · refine bX0_apply_173 ?_
              refine bX0_apply_174 (k_up_self _ _ _) (by first | exact Or.inl rfl | exact Or.inr rfl | exact kP_bl _) rfl ?_
              refine bX0_apply_177 ?_
              (try have n9 := kd_ne c6); first | (exfalso; simp_all; done) | (refine ⟨rfl, ?_⟩; rw [k_uu, k_uu]; simp_all [List.set, ap_v, ap_s, ap_p]; done)
            · refine bX0_apply_169 ?_
              refine bX0_apply_174 (k_up_self _ _ _) (by first | exact Or.inl rfl | exact Or.inr rfl | exact kP_bl _) rfl ?_
              refine bX0_apply_177 ?_
              (try have n9 := kd_ne c6); first | (exfalso; simp_all; done) | (refine ⟨rfl, ?_⟩; rw [k_uu, k_uu]; simp_all [List.set, ap_v, ap_s, ap_p]; done)
          · refine bX0_apply_150 (fun c57 => ?_) (fun c58 => ?_)
            · refine bX0_apply_159 ?_
              refine bX0_apply_160 (k_up_self _ _ _) (by first | exact Or.inl rfl | exact Or.inr rfl | exact kP_bl _) rfl ?_
              refine bX0_apply_163 (fun c59 => ?_) (fun c60 => ?_)
              · refine bX0_apply_173 ?_
                refine bX0_apply_174 (k_up_self _ _ _) (by first | exact Or.inl rfl | exact Or.inr rfl | exact kP_bl _) rfl ?_
                refine bX0_apply_177 ?_
                (try have n9 := kd_ne c6); first | (exfalso; simp_all; done) | (refine ⟨rfl, ?_⟩; rw [k_uu, k_uu]; simp_all [List.set, ap_v, ap_s, ap_p]; done)
              · refine bX0_apply_169 ?_
                refine bX0_apply_174 (k_up_self _ _ _) (by first | exact Or.inl rfl | exact Or.inr rfl | exact kP_bl _) rfl ?_
                refine bX0_apply_177 ?_
                (try have n9 := kd_ne c6); first | (exfalso; simp_all; done) | (refine ⟨rfl, ?_⟩; rw [k_uu, k_uu]; simp_all [List.set, ap_v, ap_s, ap_p]; done)
            · refine bX0_apply_155 ?_
              refine bX0_apply_160 (k_up_self _ _ _) (by first | exact Or.inl rfl | exact Or.inr rfl | exact kP_bl _) rfl ?_
              refine bX0_apply_163 (fun c61 => ?_) (fun c62 => ?_)
              · refine bX0_apply_173 ?_
                refine bX0_apply_174 (k_up_self _ _ _) (by first | exact Or.inl rfl | exact Or.inr rfl | exact kP_bl _) rfl ?_
                refine bX0_apply_177 ?_
                (try have n9 := kd_ne c6); first | (exfalso; simp_all; done) | (refine ⟨rfl, ?_⟩; rw [k_uu, k_uu]; simp_all [List.set, ap_v, ap_s, ap_p]; done)
              · refine bX0_apply_169 ?_
                refine bX0_apply_174 (k_up_self _ _ _) (by first | exact Or.inl rfl | exact Or.inr rfl | exact kP_bl _) rfl ?_
                refine bX0_apply_177 ?_
                (try have n9 := kd_ne c6); first | (exfalso; simp_all; done) | (refine ⟨rfl, ?_⟩; rw [k_uu, k_uu]; simp_all [List.set, ap_v, ap_s, ap_p]; done)
  · refine bX0_apply_68 ho rfl (fun c63 => ?_) (fun c64 => ?_)
    · refine bX0_apply_87 ?_
      refine bX0_apply_88 ho rfl ?_
      refine bX0_apply_91 ?_
      refine bX0_apply_133 (fun c65 => ?_) (fun c66 => ?_)
      · refine bX0_apply_155 ?_
        refine bX0_apply_160 (k_up_self _ _ _) (by first | exact Or.inl rfl | exact Or.inr rfl | exact kP_bl _) rfl ?_
        refine bX0_apply_163 (fun c67 => ?_) (fun c68 => ?_)
        · refine bX0_apply_173 ?_
          refine bX0_apply_174 (k_up_self _ _ _) (by first | exact Or.inl rfl | exact Or.inr rfl | exact kP_bl _) rfl ?_
          refine bX0_apply_177 ?_
          (try have n9 := kd_ne c6); first | (exfalso; simp_all; done) | (refine ⟨rfl, ?_⟩; rw [k_uu, k_uu]; simp_all [List.set, ap_v, ap_s, ap_p]; done)
        · refine bX0_apply_169 ?_
          refine bX0_apply_174 (k_up_self _ _ _) (by first | exact Or.inl rfl | exact Or.inr rfl | exact kP_bl _) rfl ?_
          refine bX0_apply_177 ?_
          (try have n9 := kd_ne c6); first | (exfalso; simp_all; done) | (refine ⟨rfl, ?_⟩; rw [k_uu, k_uu]; simp_all [List.set, ap_v, ap_s, ap_p]; done)
      · refine bX0_apply_139 (k_up_self _ _ _) rfl (fun c69 => ?_) (fun c70 => ?_)
        · refine bX0_apply_159 ?_
          refine bX0_apply_160 (k_up_self _ _ _) (by first | exact Or.inl rfl | exact Or.inr rfl | exact kP_bl _) rfl ?_
          refine bX0_apply_163 (fun c71 => ?_) (fun c72 => ?_)
          · refine bX0_apply_173 ?_
            refine bX0_apply_174 (k_up_self _ _ _) (by first | exact Or.inl rfl | exact Or.inr rfl | exact kP_bl _) rfl ?_
            refine bX0_apply_177 ?_
            (try have n9 := kd_ne c6); first | (exfalso; simp_all; done) | (refine ⟨rfl, ?_⟩; rw [k_uu, k_uu]; simp_all [List.set, ap_v, ap_s, ap_p]; done)
          · refine bX0_apply_169 ?_
            refine bX0_apply_174 (k_up_self _ _ _) (by first | exact Or.inl rfl | exact Or.inr rfl | exact kP_bl _) rfl ?_
            refine bX0_apply_177 ?_
            (try have n9 := kd_ne c6); first | (exfalso; simp_all; done) | (refine ⟨rfl, ?_⟩; rw [k_uu, k_uu]; simp_all [List.set, ap_v, ap_s, ap_p]; done)
        · refine bX0_apply_146 (fun c73 => ?_) (fun c74 => ?_)
          · refine bX0_apply_159 ?_
            refine bX0_apply_160 (k_up_self _ _ _) (by first | exact Or.inl rfl | exact Or.inr rfl | exact kP_bl _) rfl ?_
            refine bX0_apply_163 (fun c75 => ?_) (fun c76 => ?_)
            · refine bX0_apply_173 ?_
              refine bX0_apply_174 (k_up_self _ _ _) (by first | exact Or.inl rfl | exact Or.inr rfl | exact kP_bl _) rfl ?_
              refine bX0_apply_177 ?_
              (try have n9 := kd_ne c6); first | (exfalso; simp_all; done) | (refine ⟨rfl, ?_⟩; rw [k_uu, k_uu]; simp_all [List.set, ap_v, ap_s, ap_p]; done)
            · refine bX0_apply_169 ?_
              refine bX0_apply_174 (k_up_self _ _ _) (by first | exact Or.inl rfl | exact Or.inr rfl | exact kP_bl _) rfl ?_
              refine bX0_apply_177 ?_
              (try have n9 := kd_ne c6); first | (exfalso; simp_all; done) | (refine ⟨rfl, ?_⟩; rw [k_uu, k_uu]; simp_all [List.set, ap_v, ap_s, ap_p]; done)
          · refine bX0_apply_150 (fun c77 => ?_) (fun c78 => ?_)
            · refine bX0_apply_159 ?_
              refine bX0_apply_160 (k_up_self _ _ _) (by first | exact Or.inl rfl | exact Or.inr rfl | exact kP_bl _) rfl ?_
              refine bX0_apply_163 (fun c79 => ?_) (fun c80 => ?_)
              · refine bX0_apply_173 ?_
                refine bX0_apply_174 (k_up_self _ _ _) (by first | exact Or.inl rfl | exact Or.inr rfl | exact kP_bl _) rfl ?_
                refine bX0_apply_177 ?_
                (try have n9 := kd_ne c6); first | (exfalso; simp_all; done) | (refine ⟨rfl, ?_⟩; rw [k_uu, k_uu]; simp_all [List.set, ap_v, ap_s, ap_p]; done)
              · refine bX0_apply_169 ?_
                refine bX0_apply_174 (k_up_self _ _ _) (by first | exact Or.inl rfl | exact Or.inr rfl | exact kP_bl _) rfl ?_
                refine bX0_apply_177 ?_
                (try have n9 := kd_ne c6); first | (exfalso; simp_all; done) | (refine ⟨rfl, ?_⟩; rw [k_uu, k_uu]; simp_all [List.set, ap_v, ap_s, ap_p]; done)
            · refine bX0_apply_155 ?_
              refine bX0_apply_160 (k_up_self _ _ _) (by first | exact Or.inl rfl | exact Or.inr rfl | exact kP_bl _) rfl ?_
              refine bX0_apply_163 (fun c81 => ?_) (fun c82 => ?_)
              · refine bX0_apply_173 ?_
                refine bX0_apply_174 (k_up_self _ _ _) (by first | exact Or.inl rfl | exact Or.inr rfl | exact kP_bl _) rfl ?_
                refine bX0_apply_177 ?_
                (try have n9 := kd_ne c6); first | (exfalso; simp_all; done) | (refine ⟨rfl, ?_⟩; rw [k_uu, k_uu]; simp_all [List.set, ap_v, ap_s, ap_p]; done)
              · refine bX0_apply_169 ?_
                refine bX0_apply_174 (k_up_self _ _ _) (by first | exact Or.inl rfl | exact Or.inr rfl | exact kP_bl _) rfl ?_
                refine bX0_apply_177 ?_
                (try have n9 := kd_ne c6); first | (exfalso; simp_all; done) | (refine ⟨rfl, ?_⟩; rw [k_uu, k_uu]; simp_all [List.set, ap_v, ap_s, ap_p]; done)
    · refine bX0_apply_76 ho rfl ?_
      refine bX0_apply_88 ho rfl ?_
      refine bX0_apply_91 ?_
      refine bX0_apply_133 (fun c83 => ?_) (fun c84 => ?_)
      · refine bX0_apply_155 ?_
        refine bX0_apply_160 (k_up_self _ _ _) (by first | exact Or.inl rfl | exact Or.inr rfl | exact kP_bl _) rfl ?_
        refine bX0_apply_163 (fun c85 => ?_) (fun c86 => ?_)
        · refine bX0_apply_173 ?_
          refine bX0_apply_174 (k_up_self _ _ _) (by first | exact Or.inl rfl | exact Or.inr rfl | exact kP_bl _) rfl ?_
          refine bX0_apply_177 ?_
          (try have n9 := kd_ne c6); first | (exfalso; simp_all; done) | (refine ⟨rfl, ?_⟩; rw [k_uu, k_uu]; simp_all [List.set, ap_v, ap_s, ap_p]; done)
        · refine bX0_apply_169 ?_
          refine bX0_apply_174 (k_up_self _ _ _) (by first | exact Or.inl rfl | exact Or.inr rfl | exact kP_bl _) rfl ?_
          refine bX0_apply_177 ?_
          (try have n9 := kd_ne c6); first | (exfalso; simp_all; done) | (refine ⟨rfl, ?_⟩; rw [k_uu, k_uu]; simp_all [List.set, ap_v, ap_s, ap_p]; done)
      · refine bX0_apply_139 (k_up_self _ _ _) rfl (fun c87 => ?_) (fun c88 => ?_)
        · refine bX0_apply_159 ?_
          refine bX0_apply_160 (k_up_self _ _ _) (by first | exact Or.inl rfl | exact Or.inr rfl | exact kP_bl _) rfl ?_
          refine bX0_apply_163 (fun c89 => ?_) (fun c90 => ?_)
          · refine bX0_apply_173 ?_
            refine bX0_apply_174 (k_up_self _ _ _) (by first | exact Or.inl rfl | exact Or.inr rfl | exact kP_bl _) rfl ?_
            refine bX0_apply_177 ?_
            (try have n9 := kd_ne c6); first | (exfalso; simp_all; done) | (refine ⟨rfl, ?_⟩; rw [k_uu, k_uu]; simp_all [List.set, ap_v, ap_s, ap_p]; done)
          · refine bX0_apply_169 ?_
            refine bX0_apply_174 (k_up_self _ _ _) (by first | exact Or.inl rfl | exact Or.inr rfl | exact kP_bl _) rfl ?_
            refine bX0_apply_177 ?_
            (try have n9 := kd_ne c6); first | (exfalso; simp_all; done) | (refine ⟨rfl, ?_⟩; rw [k_uu, k_uu]; simp_all [List.set, ap_v, ap_s, ap_p]; done)
        · refine bX0_apply_146 (fun c91 => ?_) (fun c92 => ?_)
          · refine bX0_apply_159 ?_
            refine bX0_apply_160 (k_up_self _ _ _) (by first | exact Or.inl rfl | exact Or.inr rfl | exact kP_bl _) rfl ?_
            refine bX0_apply_163 (fun c93 => ?_) (fun c94 => ?_)
            · refine bX0_apply_173 ?_
              refine bX0_apply_174 (k_up_self _ _ _) (by first | exact Or.inl rfl | exact Or.inr rfl | exact kP_bl _) rfl ?_
              refine bX0_apply_177 ?_
              (try have n9 := kd_ne c6); first | (exfalso; simp_all; done) | (refine ⟨rfl, ?_⟩; rw [k_uu, k_uu]; simp_all [List.set, ap_v, ap_s, ap_p]; done)
            · refine bX0_apply_169 ?_
              refine bX0_apply_174 (k_up_self _ _ _) (by first | exact Or.inl rfl | exact Or.inr rfl | exact kP_bl _) rfl ?_
              refine bX0_apply_177 ?_
              (try have n9 := kd_ne c6); first | (exfalso; simp_all; done) | (refine ⟨rfl, ?_⟩; rw [k_uu, k_uu]; simp_all [List.set, ap_v, ap_s, ap_p]; done)
          · refine bX0_apply_150 (fun c95 => ?_) (fun c96 => ?_)
            · refine bX0_apply_159 ?_
              refine bX0_apply_160 (k_up_self _ _ _) (by first | exact Or.inl rfl | exact Or.inr rfl | exact kP_bl _) rfl ?_
              refine bX0_apply_163 (fun c97 => ?_) (fun c98 => ?_)
              · refine bX0_apply_173 ?_
                refine bX0_apply_174 (k_up_self _ _ _) (by first | exact Or.inl rfl | exact Or.inr rfl | exact kP_bl _) rfl ?_
                refine bX0_apply_177 ?_
                (try have n9 := kd_ne c6); first | (exfalso; simp_all; done) | (refine ⟨rfl, ?_⟩; rw [k_uu, k_uu]; simp_all [List.set, ap_v, ap_s, ap_p]; done)
              · refine bX0_apply_169 ?_
                refine bX0_apply_174 (k_up_self _ _ _) (by first | exact Or.inl rfl | exact Or.inr rfl | exact kP_bl _) rfl ?_
                refine bX0_apply_177 ?_
                (try have n9 := kd_ne c6); first | (exfalso; simp_all; done) | (refine ⟨rfl, ?_⟩; rw [k_uu, k_uu]; simp_all [List.set, ap_v, ap_s, ap_p]; done)
            · refine bX0_apply_155 ?_
              refine bX0_apply_160 (k_up_self _ _ _) (by first | exact Or.inl rfl | exact Or.inr rfl | exact kP_bl _) rfl ?_
              refine bX0_apply_163 (fun c99 => ?_) (fun c100 => ?_)
              · refine bX0_apply_173 ?_
                refine bX0_apply_174 (k_up_self _ _ _) (by first | exact Or.inl rfl | exact Or.inr rfl | exact kP_bl _) rfl ?_
                refine bX0_apply_177 ?_
                (try have n9 := kd_ne c6); first | (exfalso; simp_all; done) | (refine ⟨rfl, ?_⟩; rw [k_uu, k_uu]; simp_all [List.set, ap_v, ap_s, ap_p]; done)
              · refine bX0_apply_169 ?_
                refine bX0_apply_174 (k_up_self _ _ _) (by first | exact Or.inl rfl | exact Or.inr rfl | exact kP_bl _) rfl ?_
                refine bX0_apply_177 ?_
                (try have n9 := kd_ne c6); first | (exfalso; simp_all; done) | (refine ⟨rfl, ?_⟩; rw [k_uu, k_uu]; simp_all [List.set, ap_v, ap_s, ap_p]; done)
  · refine bX0_apply_94 ho rfl (fun c101 => ?_) (fun c102 => ?_)
    · refine bX0_apply_113 ?_
      refine bX0_apply_114 ho rfl ?_
      refine bX0_apply_117 ?_
      refine bX0_apply_133 (fun c103 => ?_) (fun c104 => ?_)
      · refine bX0_apply_155 ?_
        refine bX0_apply_160 (k_up_self _ _ _) (by first | exact Or.inl rfl | exact Or.inr rfl | exact kP_bl _) rfl ?_
        refine bX0_apply_163 (fun c105 => ?_) (fun c106 => ?_)
        · refine bX0_apply_173 ?_
          refine bX0_apply_174 (k_up_self _ _ _) (by first | exact Or.inl rfl | exact Or.inr rfl | exact kP_bl _) rfl ?_
          refine bX0_apply_177 ?_
          (try have n9 := kd_ne c6); first | (exfalso; simp_all; done) | (refine ⟨rfl, ?_⟩; rw [k_uu, k_uu]; simp_all [List.set, ap_v, ap_s, ap_p]; done)
        · refine bX0_apply_169 ?_
          refine bX0_apply_174 (k_up_self _ _ _) (by first | exact Or.inl rfl | exact Or.inr rfl | exact kP_bl _) rfl ?_
          refine bX0_apply_177 ?_
          (try have n9 := kd_ne c6); first | (exfalso; simp_all; done) | (refine ⟨rfl, ?_⟩; rw [k_uu, k_uu]; simp_all [List.set, ap_v, ap_s, ap_p]; done)
      · refine bX0_apply_139 (k_up_self _ _ _) rfl (fun c107 => ?_) (fun c108 => ?_)
        · refine bX0_apply_159 ?_
          refine bX0_apply_160 (k_up_self _ _ _) (by first | exact Or.inl rfl | exact Or.inr rfl | exact kP_bl _) rfl ?_
          refine bX0_apply_163 (fun c109 => ?_) (fun c110 => ?_)
          · refine bX0_apply_173 ?_
            refine bX0_apply_174 (k_up_self _ _ _) (by first | exact Or.inl rfl | exact Or.inr rfl | exact kP_bl _) rfl ?_
            refine bX0_apply_177 ?_
            (try have n9 := kd_ne c6); first | (exfalso; simp_all; done) | (refine ⟨rfl, ?_⟩; rw [k_uu, k_uu]; simp_all [List.set, ap_v, ap_s, ap_p]; done)
          · refine bX0_apply_169 ?_
            refine bX0_apply_174 (k_up_self _ _ _) (by first | exact Or.inl rfl | exact Or.inr rfl | exact kP_bl _) rfl ?_
            refine bX0_apply_177 ?_
            (try have n9 := kd_ne c6); first | (exfalso; simp_all; done) | (refine ⟨rfl, ?_⟩; rw [k_uu, k_uu]; simp_all [List.set, ap_v, ap_s, ap_p]; done)
        · refine bX0_apply_146 (fun c111 => ?_) (fun c112 => ?_)
          · refine bX0_apply_159 ?_
            refine bX0_apply_160 (k_up_self _ _ _) (by first | exact Or.inl rfl | exact Or.inr rfl | exact kP_bl _) rfl ?_
            refine bX0_apply_163 (fun c113 => ?_) (fun c114 => ?_)
            · refine bX0_apply_173 ?_
              refine bX0_apply_174 (k_up_self _ _ _) (by first | exact Or.inl rfl | exact Or.inr rfl | exact kP_bl _) rfl ?_
              refine bX0_apply_177 ?_
              (try have n9 := kd_ne c6); first | (exfalso; simp_all; done) | (refine ⟨rfl, ?_⟩; rw [k_uu, k_uu]; simp_all [List.set, ap_v, ap_s, ap_p]; done)
            · refine bX0_apply_169 ?_
              refine bX0_apply_174 (k_up_self _ _ _) (by first | exact Or.inl rfl | exact Or.inr rfl | exact kP_bl _) rfl ?_
              refine bX0_apply_177 ?_
              (try have n9 := kd_ne c6); first | (exfalso; simp_all; done) | (refine ⟨rfl, ?_⟩; rw [k_uu, k_uu]; simp_all [List.set, ap_v, ap_s, ap_p]; done)
          · refine bX0_apply_150 (fun c115 => ?_) (fun c116 => ?_)
            · refine bX0_apply_159 ?_
              refine bX0_apply_160 (k_up_self _ _ _) (by first | exact Or.inl rfl | exact Or.inr rfl | exact kP_bl _) rfl ?_
              refine bX0_apply_163 (fun c117 => ?_) (fun c118 => ?_)
              · refine bX0_apply_173 ?_
                refine bX0_apply_174 (k_up_self _ _ _) (by first | exact Or.inl rfl | exact Or.inr rfl | exact kP_bl _) rfl ?_
                refine bX0_apply_177 ?_
                (try have n9 := kd_ne c6); first | (exfalso; simp_all; done) | (refine ⟨rfl, ?_⟩; rw [k_uu, k_uu]; simp_all [List.set, ap_v, ap_s, ap_p]; done)
              · refine bX0_apply_169 ?_
                refine bX0_apply_174 (k_up_self _ _ _) (by first | exact Or.inl rfl | exact Or.inr rfl | exact kP_bl _) rfl ?_
                refine bX0_apply_177 ?_
                (try have n9 := kd_ne c6); first | (exfalso; simp_all; done) | (refine ⟨rfl, ?_⟩; rw [k_uu, k_uu]; simp_all [List.set, ap_v, ap_s, ap_p]; done)
            · refine bX0_apply_155 ?_
              refine bX0_apply_160 (k_up_self _ _ _) (by first | exact Or.inl rfl | exact Or.inr rfl | exact kP_bl _) rfl ?_
              refine bX0_apply_163 (fun c119 => ?_) (fun c120 => ?_)
              · refine bX0_apply_173 ?_
                refine bX0_apply_174 (k_up_self _ _ _) (by first | exact Or.inl rfl | exact Or.inr rfl | exact kP_bl _) rfl ?_
                refine bX0_apply_177 ?_
                (try have n9 := kd_ne c6); first | (exfalso; simp_all; done) | (refine ⟨rfl, ?_⟩; rw [k_uu, k_uu]; simp_all [List.set, ap_v, ap_s, ap_p]; done)
              · refine bX0_apply_169 ?_
                refine bX0_apply_174 (k_up_self _ _ _) (by first | exact Or.inl rfl | exact Or.inr rfl | exact kP_bl _) rfl ?_
                refine bX0_apply_177 ?_
                (try have n9 := kd_ne c6); first | (exfalso; simp_all; done) | (refine ⟨rfl, ?_⟩; rw [k_uu, k_uu]; simp_all [List.set, ap_v, ap_s, ap_p]; done)
    · refine bX0_apply_102 ho rfl ?_
      refine bX0_apply_114 ho rfl ?_
      refine bX0_apply_117 ?_
      refine bX0_apply_133 (fun c121 => ?_) (fun c122 => ?_)
      · refine bX0_apply_155 ?_
        refine bX0_apply_160 (k_up_self _ _ _) (by first | exact Or.inl rfl | exact Or.inr rfl | exact kP_bl _) rfl ?_
        refine bX0_apply_163 (fun c123 => ?_) (fun c124 => ?_)
        · refine bX0_apply_173 ?_
          refine bX0_apply_174 (k_up_self _ _ _) (by first | exact Or.inl rfl | exact Or.inr rfl | exact kP_bl _) rfl ?_
          refine bX0_apply_177 ?_
          (try have n9 := kd_ne c6); first | (exfalso; simp_all; done) | (refine ⟨rfl, ?_⟩; rw [k_uu, k_uu]; simp_all [List.set, ap_v, ap_s, ap_p]; done)
        · refine bX0_apply_169 ?_
          refine bX0_apply_174 (k_up_self _ _ _) (by first | exact Or.inl rfl | exact Or.inr rfl | exact kP_bl _) rfl ?_
          refine bX0_apply_177 ?_
          (try have n9 := kd_ne c6); first | (exfalso; simp_all; done) | (refine ⟨rfl, ?_⟩; rw [k_uu, k_uu]; simp_all [List.set, ap_v, ap_s, ap_p]; done)
      · refine bX0_apply_139 (k_up_self _ _ _) rfl (fun c125 => ?_) (fun c126 => ?_)
        · refine bX0_apply_159 ?_
          refine bX0_apply_160 (k_up_self _ _ _) (by first | exact Or.inl rfl | exact Or.inr rfl | exact kP_bl _) rfl ?_
          refine bX0_apply_163 (fun c127 => ?_) (fun c128 => ?_)
          · refine bX0_apply_173 ?_
            refine bX0_apply_174 (k_up_self _ _ _) (by first | exact Or.inl rfl | exact Or.inr rfl | exact kP_bl _) rfl ?_
            refine bX0_apply_177 ?_
            (try have n9 := kd_ne c6); first | (exfalso; simp_all; done) | (refine ⟨rfl, ?_⟩; rw [k_uu, k_uu]; simp_all [List.set, ap_v, ap_s, ap_p]; done)
          · refine bX0_apply_169 ?_
            refine bX0_apply_174 (k_up_self _ _ _) (by first | exact Or.inl rfl | exact Or.inr rfl | exact kP_bl _) rfl ?_
            refine bX0_apply_177 ?_
            (try have n9 := kd_ne c6); first | (exfalso; simp_all; done) | (refine ⟨rfl, ?_⟩; rw [k_uu, k_uu]; simp_all [List.set, ap_v, ap_s, ap_p]; done)
        · refine bX0_apply_146 (fun c129 => ?_) (fun c130 => ?_)
          · refine bX0_apply_159 ?_
            refine bX0_apply_160 (k_up_self _ _ _) (by first | exact Or.inl rfl | exact Or.inr rfl | exact kP_bl _) rfl ?_
            refine bX0_apply_163 (fun c131 => ?_) (fun c132 => ?_)
            · refine bX0_apply_173 ?_
              refine bX0_apply_174 (k_up_self _ _ _) (by first | exact Or.inl rfl | exact Or.inr rfl | exact kP_bl _) rfl ?_
              refine bX0_apply_177 ?_
              (try have n9 := kd_ne c6); first | (exfalso; simp_all; done) | (refine ⟨rfl, ?_⟩; rw [k_uu, k_uu]; simp_all [List.set, ap_v, ap_s, ap_p]; done)
            · refine bX0_apply_169 ?_
              refine bX0_apply_174 (k_up_self _ _ _) (by first | exact Or.inl rfl | exact Or.inr rfl | exact kP_bl _) rfl ?_
              refine bX0_apply_177 ?_
              (try have n9 := kd_ne c6); first | (exfalso; simp_all; done) | (refine ⟨rfl, ?_⟩; rw [k_uu, k_uu]; simp_all [List.set, ap_v, ap_s, ap_p]; done)
          · refine bX0_apply_150 (fun c133 => ?_) (fun c134 => ?_)
            · refine bX0_apply_159 ?_
              refine bX0_apply_160 (k_up_self _ _ _) (by first | exact Or.inl rfl | exact Or.inr rfl | exact kP_bl _) rfl ?_
              refine bX0_apply_163 (fun c135 => ?_) (fun c136 => ?_)
              · refine bX0_apply_173 ?_
                refine bX0_apply_174 (k_up_self _ _ _) (by first | exact Or.inl rfl | exact Or.inr rfl | exact kP_bl _) rfl ?_
                refine bX0_apply_177 ?_
                (try have n9 := kd_ne c6); first | (exfalso; simp_all; done) | (refine ⟨rfl, ?_⟩; rw [k_uu, k_uu]; simp_all [List.set, ap_v, ap_s, ap_p]; done)
              · refine bX0_apply_169 ?_
                refine bX0_apply_174 (k_up_self _ _ _) (by first | exact Or.inl rfl | exact Or.inr rfl | exact kP_bl _) rfl ?_
                refine bX0_apply_177 ?_
                (try have n9 := kd_ne c6); first | (exfalso; simp_all; done) | (refine ⟨rfl, ?_⟩; rw [k_uu, k_uu]; simp_all [List.set, ap_v, ap_s, ap_p]; done)
            · refine bX0_apply_155 ?_
              refine bX0_apply_160 (k_up_self _ _ _) (by first | exact Or.inl rfl | exact Or.inr rfl | exact kP_bl _) rfl ?_
              refine bX0_apply_163 (fun c137 => ?_) (fun c138 => ?_)
              · refine bX0_apply_173 ?_
                refine bX0_apply_174 (k_up_self _ _ _) (by first | exact Or.inl rfl | exact Or.inr rfl | exact kP_bl _) rfl ?_
                refine bX0_apply_177 ?_
                (try have n9 := kd_ne c6); first | (exfalso; simp_all; done) | (refine ⟨rfl, ?_⟩; rw [k_uu, k_uu]; simp_all [List.set, ap_v, ap_s, ap_p]; done)
              · refine bX0_apply_169 ?_
                refine bX0_apply_174 (k_up_self _ _ _) (by first | exact Or.inl rfl | exact Or.inr rfl | exact kP_bl _) rfl ?_
                refine bX0_apply_177 ?_
                (try have n9 := kd_ne c6); first | (exfalso; simp_all; done) | (refine ⟨rfl, ?_⟩; rw [k_uu, k_uu]; simp_all [List.set, ap_v, ap_s, ap_p]; done)
  · refine bX0_apply_120 ho rfl ?_
    refine bX0_apply_125 ?_
    refine bX0_apply_133 (fun c139 => ?_) (fun c140 => ?_)
    · refine bX0_apply_155 ?_
      refine bX0_apply_160 (k_up_self _ _ _) (by first | exact Or.inl rfl | exact Or.inr rfl | exact kP_bl _) rfl ?_
      refine bX0_apply_163 (fun c141 => ?_) (fun c142 => ?_)
      · refine bX0_apply_173 ?_
        refine bX0_apply_174 (k_up_self _ _ _) (by first | exact Or.inl rfl | exact Or.inr rfl | exact kP_bl _) rfl ?_
        refine bX0_apply_177 ?_
        (try have n9 := kd_ne c6); first | (exfalso; simp_all; done) | (refine ⟨rfl, ?_⟩; rw [k_uu, k_uu]; simp_all [List.set, ap_v, ap_s, ap_p]; done)
      · refine bX0_apply_169 ?_
        refine bX0_apply_174 (k_up_self _ _ _) (by first | exact Or.inl rfl | exact Or.inr rfl | exact kP_bl _) rfl ?_
        refine bX0_apply_177 ?_
        (try have n9 := kd_ne c6); first | (exfalso; simp_all; done) | (refine ⟨rfl, ?_⟩; rw [k_uu, k_uu]; simp_all [List.set, ap_v, ap_s, ap_p]; done)
    · refine bX0_apply_139 (k_up_self _ _ _) rfl (fun c143 => ?_) (fun c144 => ?_)
      · refine bX0_apply_159 ?_
        refine bX0_apply_160 (k_up_self _ _ _) (by first | exact Or.inl rfl | exact Or.inr rfl | exact kP_bl _) rfl ?_
        refine bX0_apply_163 (fun c145 => ?_) (fun c146 => ?_)
        · refine bX0_apply_173 ?_
          refine bX0_apply_174 (k_up_self _ _ _) (by first | exact Or.inl rfl | exact Or.inr rfl | exact kP_bl _) rfl ?_
          refine bX0_apply_177 ?_
          (try have n9 := kd_ne c6); first | (exfalso; simp_all; done) | (refine ⟨rfl, ?_⟩; rw [k_uu, k_uu]; simp_all [List.set, ap_v, ap_s, ap_p]; done)
        · refine bX0_apply_169 ?_
          refine bX0_apply_174 (k_up_self _ _ _) (by first | exact Or.inl rfl | exact Or.inr rfl | exact kP_bl _) rfl ?_
          refine bX0_apply_177 ?_
          (try have n9 := kd_ne c6); first | (exfalso; simp_all; done) | (refine ⟨rfl, ?_⟩; rw [k_uu, k_uu]; simp_all [List.set, ap_v, ap_s, ap_p]; done)
      · refine bX0_apply_146 (fun c147 => ?_) (fun c148 => ?_)
        · refine bX0_apply_159 ?_
          refine bX0_apply_160 (k_up_self _ _ _) (by first | exact Or.inl rfl | exact Or.inr rfl | exact kP_bl _) rfl ?_
          refine bX0_apply_163 (fun c149 => ?_) (fun c150 => ?_)
          · refine bX0_apply_173 ?_
            refine bX0_apply_174 (k_up_self _ _ _) (by first | exact Or.inl rfl | exact Or.inr rfl | exact kP_bl _) rfl ?_
            refine bX0_apply_177 ?_
            (try have n9 := kd_ne c6); first | (exfalso; simp_all; done) | (refine ⟨rfl, ?_⟩; rw [k_uu, k_uu]; simp_all [List.set, ap_v, ap_s, ap_p]; done)
          · refine bX0_apply_169 ?_
            refine bX0_apply_174 (k_up_self _ _ _) (by first | exact Or.inl rfl | exact Or.inr rfl | exact kP_bl _) rfl ?_
            refine bX0_apply_177 ?_
            (try have n9 := kd_ne c6); first | (exfalso; simp_all; done) | (refine ⟨rfl, ?_⟩; rw [k_uu, k_uu]; simp_all [List.set, ap_v, ap_s, ap_p]; done)
        · refine bX0_apply_150 (fun c151 => ?_) (fun c152 => ?_)
          · refine bX0_apply_159 ?_
            refine bX0_apply_160 (k_up_self _ _ _) (by first | exact Or.inl rfl | exact Or.inr rfl | exact kP_bl _) rfl ?_
            refine bX0_apply_163 (fun c153 => ?_) (fun c154 => ?_)
            · refine bX0_apply_173 ?_
              refine bX0_apply_174 (k_up_self _ _ _) (by first | exact Or.inl rfl | exact Or.inr rfl | exact kP_bl _) rfl ?_
              refine bX0_apply_177 ?_
              (try have n9 := kd_ne c6); first | (exfalso; simp_all; done) | (refine ⟨rfl, ?_⟩; rw [k_uu, k_uu]; simp_all [List.set, ap_v, ap_s, ap_p]; done)
            · refine bX0_apply_169 ?_
              refine bX0_apply_174 (k_up_self _ _ _) (by first | exact Or.inl rfl | exact Or.inr rfl | exact kP_bl _) rfl ?_
              refine bX0_apply_177 ?_
              (try have n9 := kd_ne c6); first | (exfalso; simp_all; done) | (refine ⟨rfl, ?_⟩; rw [k_uu, k_uu]; simp_all [List.set, ap_v, ap_s, ap_p]; done)
          · refine bX0_apply_155 ?_
            refine bX0_apply_160 (k_up_self _ _ _) (by first | exact Or.inl rfl | exact Or.inr rfl | exact kP_bl _) rfl ?_
            refine bX0_apply_163 (fun c155 => ?_) (fun c156 => ?_)
            · refine bX0_apply_173 ?_
              refine bX0_apply_174 (k_up_self _ _ _) (by first | exact Or.inl rfl | exact Or.inr rfl | exact kP_bl _) rfl ?_
              refine bX0_apply_177 ?_
              (try have n9 := kd_ne c6); first | (exfalso; simp_all; done) | (refine ⟨rfl, ?_⟩; rw [k_uu, k_uu]; simp_all [List.set, ap_v, ap_s, ap_p]; done)
            · refine bX0_apply_169 ?_
              refine bX0_apply_174 (k_up_self _ _ _) (by first | exact Or.inl rfl | exact Or.inr rfl | exact kP_bl _) rfl ?_
              refine bX0_apply_177 ?_
              (try have n9 := kd_ne c6); first | (exfalso; simp_all; done) | (refine ⟨rfl, ?_⟩; rw [k_uu, k_uu]; simp_all [List.set, ap_v, ap_s, ap_p]; done)
  · refine bX0_apply_128 ho rfl ?_
    refine bX0_apply_133 (fun c157 => ?_) (fun c158 => ?_)
    · refine bX0_apply_155 ?_
      refine bX0_apply_160 (k_up_self _ _ _) (by first | exact Or.inl rfl | exact Or.inr rfl | exact kP_bl _) rfl ?_
      refine bX0_apply_163 (fun c159 => ?_) (fun c160 => ?_)
      · refine bX0_apply_173 ?_
        refine bX0_apply_174 (k_up_self _ _ _) (by first | exact Or.inl rfl | exact Or.inr rfl | exact kP_bl _) rfl ?_
        refine bX0_apply_177 ?_
        (try have n9 := kd_ne c6); first | (exfalso; simp_all; done) | (refine ⟨rfl, ?_⟩; rw [k_uu, k_uu]; simp_all [List.set, ap_v, ap_s, ap_p]; done)
      · refine bX0_apply_169 ?_
        refine bX0_apply_174 (k_up_self _ _ _) (by first | exact Or.inl rfl | exact Or.inr rfl | exact kP_bl _) rfl ?_
        refine bX0_apply_177 ?_
        (try have n9 := kd_ne c6); first | (exfalso; simp_all; done) | (refine ⟨rfl, ?_⟩; rw [k_uu, k_uu]; simp_all [List.set, ap_v, ap_s, ap_p]; done)
    · refine bX0_apply_139 (k_up_self _ _ _) rfl (fun c161 => ?_) (fun c162 => ?_)
      · refine bX0_apply_159 ?_
        refine bX0_apply_160 (k_up_self _ _ _) (by first | exact Or.inl rfl | exact Or.inr rfl | exact kP_bl _) rfl ?_
        refine bX0_apply_163 (fun c163 => ?_) (fun c164 => ?_)
        · refine bX0_apply_173 ?_
          refine bX0_apply_174 (k_up_self _ _ _) (by first | exact Or.inl rfl | exact Or.inr rfl | exact kP_bl _) rfl ?_
          refine bX0_apply_177 ?_
          (try have n9 := kd_ne c6); first | (exfalso; simp_all; done) | (refine ⟨rfl, ?_⟩; rw [k_uu, k_uu]; simp_all [List.set, ap_v, ap_s, ap_p]; done)
        · refine bX0_apply_169 ?_
          refine bX0_apply_174 (k_up_self _ _ _) (by first | exact Or.inl rfl | exact Or.inr rfl | exact kP_bl _) rfl ?_
          refine bX0_apply_177 ?_
          (try have n9 := kd_ne c6); first | (exfalso; simp_all; done) | (refine ⟨rfl, ?_⟩; rw [k_uu, k_uu]; simp_all [List.set, ap_v, ap_s, ap_p]; done)
      · refine bX0_apply_146 (fun c165 => ?_) (fun c166 => ?_)
        · refine bX0_apply_159 ?_
          refine bX0_apply_160 (k_up_self _ _ _) (by first | exact Or.inl rfl | exact Or.inr rfl | exact kP_bl _) rfl ?_
          refine bX0_apply_163 (fun c167 => ?_) (fun c168 => ?_)
          · refine bX0_apply_173 ?_
            refine bX0_apply_174 (k_up_self _ _ _) (by first | exact Or.inl rfl | exact Or.inr rfl | exact kP_bl _) rfl ?_
            refine bX0_apply_177 ?_
            (try have n9 := kd_ne c6); first | (exfalso; simp_all; done) | (refine ⟨rfl, ?_⟩; rw [k_uu, k_uu]; simp_all [List.set, ap_v, ap_s, ap_p]; done)
          · refine bX0_apply_169 ?_
            refine bX0_apply_174 (k_up_self _ _ _) (by first | exact Or.inl rfl | exact Or.inr rfl | exact kP_bl _) rfl ?_
            refine bX0_apply_177 ?_
            (try have n9 := kd_ne c6); first | (exfalso; simp_all; done) | (refine ⟨rfl, ?_⟩; rw [k_uu, k_uu]; simp_all [List.set, ap_v, ap_s, ap_p]; done)
        · refine bX0_apply_150 (fun c169 => ?_) (fun c170 => ?_)
          · refine bX0_apply_159 ?_
            refine bX0_apply_160 (k_up_self _ _ _) (by first | exact Or.inl rfl | exact Or.inr rfl | exact kP_bl _) rfl ?_
            refine bX0_apply_163 (fun c171 => ?_) (fun c172 => ?_)
            · refine bX0_apply_173 ?_
              refine bX0_apply_174 (k_up_self _ _ _) (by first | exact Or.inl rfl | exact Or.inr rfl | exact kP_bl _) rfl ?_
              refine bX0_apply_177 ?_
              (try have n9 := kd_ne c6); first | (exfalso; simp_all; done) | (refine ⟨rfl, ?_⟩; rw [k_uu, k_uu]; simp_all [List.set, ap_v, ap_s, ap_p]; done)
            · refine bX0_apply_169 ?_
              refine bX0_apply_174 (k_up_self _ _ _) (by first | exact Or.inl rfl | exact Or.inr rfl | exact kP_bl _) rfl ?_
              refine bX0_apply_177 ?_
              (try have n9 := kd_ne c6); first | (exfalso; simp_all; done) | (refine ⟨rfl, ?_⟩; rw [k_uu, k_uu]; simp_all [List.set, ap_v, ap_s, ap_p]; done)
          · refine bX0_apply_155 ?_
            refine bX0_apply_160 (k_up_self _ _ _) (by first | exact Or.inl rfl | exact Or.inr rfl | exact kP_bl _) rfl ?_
            refine bX0_apply_163 (fun c173 => ?_) (fun c174 => ?_)
            · refine bX0_apply_173 ?_
              refine bX0_apply_174 (k_up_self _ _ _) (by first | exact Or.inl rfl | exact Or.inr rfl | exact kP_bl _) rfl ?_
              refine bX0_apply_177 ?_
              (try have n9 := kd_ne c6); first | (exfalso; simp_all; done) | (refine ⟨rfl, ?_⟩; rw [k_uu, k_uu]; simp_all [List.set, ap_v, ap_s, ap_p]; done)
            · refine bX0_apply_169 ?_
              refine bX0_apply_174 (k_up_self _ _ _) (by first | exact Or.inl rfl | exact Or.inr rfl | exact kP_bl _) rfl ?_
              refine bX0_apply_177 ?_
              (try have n9 := kd_ne c6); first | (exfalso; simp_all; done) | (refine ⟨rfl, ?_⟩; rw [k_uu, k_uu]; simp_all [List.set, ap_v, ap_s, ap_p]; done)
def s_ord (k : Int32) : Bool := !(decide (k = 6)) && !(decide (k = 7))
def s_all (k : Int32) : Bool := decide (k = 0) || decide (k = 1) || decide (k = 5)
theorem c_X1_isInOrder (ok : k_ok G l) {h : k_H} {a : Nat} {k : Int32} {lo hi : Int64} {v4 v5 : k_V} (ho : h.1 a = some (k_o 4 [vI k, vJ lo, vJ hi, v4, v5])) : k_cti (tX1_isInOrder G l) [vR (some a)] h (fun h' w => h' = h ∧ w = kB (s_ord k)) := by
  refine k_cti_of (eX1_isInOrder ok.2 ?_)
  refine bX1_isInOrder_0 ho rfl (fun c1 => ?_) (fun c2 => ?_)
  · refine bX1_isInOrder_22 ?_
    refine bX1_isInOrder_23 (by first | exact Or.inl rfl | exact Or.inr rfl | exact kB_bl _) ?_
    exact ⟨_, rfl, rfl, by symm; simp_all [s_ord, kB_0, kB_1]⟩
  · refine bX1_isInOrder_9 ho rfl (fun c3 => ?_) (fun c4 => ?_)
    · refine bX1_isInOrder_22 ?_
      refine bX1_isInOrder_23 (by first | exact Or.inl rfl | exact Or.inr rfl | exact kB_bl _) ?_
      exact ⟨_, rfl, rfl, by symm; simp_all [s_ord, kB_0, kB_1]⟩
    · refine bX1_isInOrder_18 ?_
      refine bX1_isInOrder_23 (by first | exact Or.inl rfl | exact Or.inr rfl | exact kB_bl _) ?_
      exact ⟨_, rfl, rfl, by symm; simp_all [s_ord, kB_0, kB_1]⟩
theorem c_X1_saysAll (ok : k_ok G l) {h : k_H} {a : Nat} {k : Int32} {lo hi : Int64} {v4 v5 : k_V} (ho : h.1 a = some (k_o 4 [vI k, vJ lo, vJ hi, v4, v5])) : k_cti (tX1_saysAll G l) [vR (some a)] h (fun h' w => h' = h ∧ w = kB (s_all k)) := by
  refine k_cti_of (eX1_saysAll ok.2 ?_)
  refine bX1_saysAll_0 ho rfl (fun c1 => ?_) (fun c2 => ?_)
  · refine bX1_saysAll_23 ?_
    refine bX1_saysAll_28 (by first | exact Or.inl rfl | exact Or.inr rfl | exact kB_bl _) ?_
    exact ⟨_, rfl, rfl, by symm; simp_all [s_all, kB_0, kB_1]⟩
  · refine bX1_saysAll_7 ho rfl (fun c3 => ?_) (fun c4 => ?_)
    · refine bX1_saysAll_23 ?_
      refine bX1_saysAll_28 (by first | exact Or.inl rfl | exact Or.inr rfl | exact kB_bl _) ?_
      exact ⟨_, rfl, rfl, by symm; simp_all [s_all, kB_0, kB_1]⟩
    · refine bX1_saysAll_15 ho rfl (fun c5 => ?_) (fun c6 => ?_)
      · refine bX1_saysAll_27 ?_
        refine bX1_saysAll_28 (by first | exact Or.inl rfl | exact Or.inr rfl | exact kB_bl _) ?_
        exact ⟨_, rfl, rfl, by symm; simp_all [s_all, kB_0, kB_1]⟩
      · refine bX1_saysAll_23 ?_
        refine bX1_saysAll_28 (by first | exact Or.inl rfl | exact Or.inr rfl | exact kB_bl _) ?_
        exact ⟨_, rfl, rfl, by symm; simp_all [s_all, kB_0, kB_1]⟩
theorem c_X1_isRange (ok : k_ok G l) {h : k_H} {a : Nat} {k : Int32} {lo hi : Int64} {v4 v5 : k_V} (ho : h.1 a = some (k_o 4 [vI k, vJ lo, vJ hi, v4, v5])) : k_cti (tX1_isRange G l) [vR (some a)] h (fun h' w => h' = h ∧ w = kB (!(decide (hi - lo ≤ 1)))) := by
  refine k_cti_of (eX1_isRange ok.2 ?_)
  refine bX1_isRange_0 ho rfl rfl (fun c1 => ?_) (fun c2 => ?_)
  · refine bX1_isRange_18 ?_
    refine bX1_isRange_19 (by first | exact Or.inl rfl | exact Or.inr rfl | exact kB_bl _) ?_
    exact ⟨_, rfl, rfl, by symm; simp_all [kB_0, kB_1]⟩
  · refine bX1_isRange_14 ?_
    refine bX1_isRange_19 (by first | exact Or.inl rfl | exact Or.inr rfl | exact kB_bl _) ?_
    exact ⟨_, rfl, rfl, by symm; simp_all [kB_0, kB_1]⟩
end SO
end
