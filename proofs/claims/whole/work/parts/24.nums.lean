/-! NUMBERS, KEYS AND CODES -/
def kP (p : Prop) [Decidable p] : Int32 := if p then 1 else 0
theorem kP_bl (p : Prop) [Decidable p] : kP p = 0 ∨ kP p = 1 := by unfold kP; split <;> simp
theorem kP_0 {p : Prop} [Decidable p] : kP p = 0 ↔ ¬ p := by unfold kP; split <;> simp_all
theorem kP_1 {p : Prop} [Decidable p] : kP p = 1 ↔ p := by unfold kP; split <;> simp_all
theorem kP_t {p : Prop} [Decidable p] (h : p) : kP p = 1 := if_pos h
theorem kP_f {p : Prop} [Decidable p] (h : ¬ p) : kP p = 0 := if_neg h
theorem kP_iff {p q : Prop} [Decidable p] [Decidable q] (h : p ↔ q) : kP p = kP q := by
  by_cases c : p
  · rw [kP_t c, kP_t (h.mp c)]
  · rw [kP_f c, kP_f (fun z => c (h.mpr z))]
/-- a number of a key -/
def s_nm (x : Int32) : Prop := ¬ x < -999 ∧ ¬ 9999 < x
theorem s_nm_int {x : Int32} (h : s_nm x) : -999 ≤ x.toInt ∧ x.toInt ≤ 9999 := by
  obtain ⟨h1, h2⟩ := h
  have e1 := Int32.le_iff_toInt_le.mp (Int32.not_lt.mp h1)
  have e2 := Int32.le_iff_toInt_le.mp (Int32.not_lt.mp h2)
  have r1 : (-999 : Int32).toInt = -999 := by decide
  have r2 : (9999 : Int32).toInt = 9999 := by decide
  omega
theorem s_nm_of {x : Int32} (h1 : -999 ≤ x.toInt) (h2 : x.toInt ≤ 9999) : s_nm x := by
  have r1 : (-999 : Int32).toInt = -999 := by decide
  have r2 : (9999 : Int32).toInt = 9999 := by decide
  exact ⟨Int32.not_lt.mpr (Int32.le_iff_toInt_le.mpr (by omega)), Int32.not_lt.mpr (Int32.le_iff_toInt_le.mpr (by omega))⟩
theorem s_nm_ne {x : Int32} (h : s_nm x) : ¬ x = 10000 := fun e => by
  have := (s_nm_int h).2
  rw [e] at this
  exact absurd this (by decide)
/-- .. or none -/
def s_na (x : Int32) : Prop := x = 10000 ∨ s_nm x
def s_nmB (x : Int32) : Bool := decide (¬ x < -999) && decide (¬ 9999 < x)
theorem s_nmB_iff {x : Int32} : s_nmB x = true ↔ s_nm x := by simp [s_nmB, s_nm]
/-- a key; a range -/
def s_keyB (a b c : Int32) : Bool := s_nmB a && (decide (b = 10000) && decide (c = 10000) || s_nmB b && (decide (c = 10000) || s_nmB c))
def s_rngB (a b : Int32) : Bool := decide (a = 10000) && decide (b = 10000) || s_nmB a && (decide (b = 10000) || s_nmB b)
def kB (b : Bool) : Int32 := if b = true then 1 else 0
theorem kB_bl (b : Bool) : kB b = 0 ∨ kB b = 1 := by cases b <;> simp [kB]
theorem kB_0 {b : Bool} : kB b = 0 ↔ b = false := by cases b <;> simp [kB]
theorem kB_n0 {b : Bool} : ¬ kB b = 0 ↔ b = true := by cases b <;> simp [kB]
theorem kB_1 {b : Bool} : kB b = 1 ↔ b = true := by cases b <;> simp [kB]
/-- the digit of a number; a code -/
def s_dg (x : Int32) : Nat := if x = 10000 then 0 else (x.toInt + 1000).toNat
def s_cd (a b c : Int32) : Nat := (s_dg a * 11000 + s_dg b) * 11000 + s_dg c
theorem s_dg_none : s_dg 10000 = 0 := rfl
theorem s_dg_num {x : Int32} (h : s_nm x) : (s_dg x : Int) = x.toInt + 1000 := by
  unfold s_dg
  rw [if_neg (s_nm_ne h)]
  have := s_nm_int h
  omega
theorem s_dg_pos {x : Int32} (h : s_nm x) : 0 < s_dg x := by have := s_dg_num h; have := s_nm_int h; omega
theorem s_dg_lt {x : Int32} (h : s_na x) : s_dg x < 11000 := by
  rcases h with rfl | h
  · decide
  · have := s_dg_num h; have := s_nm_int h; omega
theorem s_dg_inj {x y : Int32} (hx : s_na x) (hy : s_na y) (e : s_dg x = s_dg y) : x = y := by
  rcases hx with rfl | hx <;> rcases hy with rfl | hy
  · rfl
  · have := s_dg_pos hy; rw [← e, s_dg_none] at this; omega
  · have := s_dg_pos hx; rw [e, s_dg_none] at this; omega
  · apply Int32.toInt_inj.mp
    have := s_dg_num hx; have := s_dg_num hy; omega
theorem s_cd_lt {a b c : Int32} (ha : s_na a) (hb : s_na b) (hc : s_na c) : s_cd a b c < 1331000000000 := by
  have := s_dg_lt ha; have := s_dg_lt hb; have := s_dg_lt hc
  unfold s_cd; omega
theorem s_cd_inj {a b c a' b' c' : Int32} (ha : s_na a) (hb : s_na b) (hc : s_na c) (ha' : s_na a') (hb' : s_na b') (hc' : s_na c') (e : s_cd a b c = s_cd a' b' c') : a = a' ∧ b = b' ∧ c = c' := by
  have h1 := s_dg_lt ha; have h2 := s_dg_lt hb; have h3 := s_dg_lt hc
  have h4 := s_dg_lt ha'; have h5 := s_dg_lt hb'; have h6 := s_dg_lt hc'
  unfold s_cd at e
  exact ⟨s_dg_inj ha ha' (by omega), s_dg_inj hb hb' (by omega), s_dg_inj hc hc' (by omega)⟩
/-- the numbers of a code -/
def s_dig (n place : Nat) : Nat := if place = 0 then n / 121000000 % 11000 else if place = 1 then n / 11000 % 11000 else n % 11000
def s_un (d : Nat) : Int32 := if d = 0 then 10000 else nI d - 1000
def s_no (n place : Nat) : Int32 := s_un (s_dig n place)
theorem s_un_dg {x : Int32} (h : s_na x) : s_un (s_dg x) = x := by
  rcases h with rfl | h
  · rfl
  · have h1 := s_dg_pos h
    have h2 := s_dg_num h
    have h3 := s_nm_int h
    unfold s_un
    rw [if_neg (by omega)]
    have e : nI (s_dg x) = x + 1000 := by
      apply Int32.toInt_inj.mp
      rw [nI_toInt (by omega), Int32.toInt_add]
      have r : (1000 : Int32).toInt = 1000 := by decide
      rw [r, h2, Int.bmod_eq_of_le (by omega) (by omega)]
    rw [e]
    exact Int32.add_sub_cancel _ _
theorem s_no_0 {a b c : Int32} (ha : s_na a) (hb : s_na b) (hc : s_na c) : s_no (s_cd a b c) 0 = a := by
  have h1 := s_dg_lt ha; have h2 := s_dg_lt hb; have h3 := s_dg_lt hc
  have e : s_dig (s_cd a b c) 0 = s_dg a := by unfold s_dig s_cd; rw [if_pos rfl]; omega
  unfold s_no
  rw [e, s_un_dg ha]
theorem s_no_1 {a b c : Int32} (ha : s_na a) (hb : s_na b) (hc : s_na c) : s_no (s_cd a b c) 1 = b := by
  have h1 := s_dg_lt ha; have h2 := s_dg_lt hb; have h3 := s_dg_lt hc
  have e : s_dig (s_cd a b c) 1 = s_dg b := by unfold s_dig s_cd; rw [if_neg (by decide), if_pos rfl]; omega
  unfold s_no
  rw [e, s_un_dg hb]
theorem s_no_2 {a b c : Int32} (ha : s_na a) (hb : s_na b) (hc : s_na c) : s_no (s_cd a b c) 2 = c := by
  have h1 := s_dg_lt ha; have h2 := s_dg_lt hb; have h3 := s_dg_lt hc
  have e : s_dig (s_cd a b c) 2 = s_dg c := by unfold s_dig s_cd; rw [if_neg (by decide), if_neg (by decide)]; omega
  unfold s_no
  rw [e, s_un_dg hc]
theorem s_un_na {d : Nat} (h : d < 11000) : s_na (s_un d) ∧ s_dg (s_un d) = d := by
  unfold s_un
  by_cases c : d = 0
  · rw [if_pos c]; exact ⟨Or.inl rfl, c ▸ rfl⟩
  · rw [if_neg c]
    have e : (nI d - 1000).toInt = (d : Int) - 1000 := by
      rw [Int32.toInt_sub, nI_toInt (by omega)]
      have r : (1000 : Int32).toInt = 1000 := by decide
      rw [r, Int.bmod_eq_of_le (by omega) (by omega)]
    have hn : s_nm (nI d - 1000) := s_nm_of (by omega) (by omega)
    refine ⟨Or.inr hn, ?_⟩
    have := s_dg_num hn
    omega
theorem s_dig_lt (n place : Nat) : s_dig n place < 11000 := by unfold s_dig; split <;> (try split) <;> omega
theorem s_cd_dig {n : Nat} (h : n < 1331000000000) : (s_dig n 0 * 11000 + s_dig n 1) * 11000 + s_dig n 2 = n := by
  unfold s_dig; rw [if_pos rfl, if_neg (by decide), if_pos rfl, if_neg (by decide), if_neg (by decide)]; omega
theorem s_cd_no {n : Nat} (h : n < 1331000000000) : s_cd (s_no n 0) (s_no n 1) (s_no n 2) = n := by
  unfold s_cd s_no
  rw [(s_un_na (s_dig_lt n 0)).2, (s_un_na (s_dig_lt n 1)).2, (s_un_na (s_dig_lt n 2)).2, s_cd_dig h]
/-- long numbers -/
theorem lX_toInt {n : Nat} (h : n < 2 ^ 62) : (lN n).toInt = (n : Int) := lg_ofNat_toInt (by omega)
theorem lX_le {a b : Nat} (ha : a < 2 ^ 62) (hb : b < 2 ^ 62) : lN a ≤ lN b ↔ a ≤ b := by
  rw [Int64.le_iff_toInt_le, lX_toInt ha, lX_toInt hb]; omega
theorem lX_lt {a b : Nat} (ha : a < 2 ^ 62) (hb : b < 2 ^ 62) : lN a < lN b ↔ a < b := by
  rw [Int64.lt_iff_toInt_lt, lX_toInt ha, lX_toInt hb]; omega
theorem lX_eq {a b : Nat} (ha : a < 2 ^ 62) (hb : b < 2 ^ 62) : lN a = lN b ↔ a = b := by
  constructor
  · intro h
    have := congrArg Int64.toInt h
    rw [lX_toInt ha, lX_toInt hb] at this
    omega
  · rintro rfl; rfl
theorem lX_div {a b : Nat} (ha : a < 2 ^ 62) (hb : b < 2 ^ 62) : lN a / lN b = lN (a / b) := by
  apply Int64.toInt_inj.mp
  have h1 : a / b ≤ a := Nat.div_le_self _ _
  rw [lX_toInt (by omega), Int64.toInt_div, lX_toInt ha, lX_toInt hb]
  rw [Int.tdiv_eq_ediv_of_nonneg (by omega)]
  have : ((a : Int) / (b : Int)) = ((a / b : Nat) : Int) := rfl
  rw [this]
  generalize a / b = q at h1
  rw [Int.bmod_eq_of_le (by omega) (by omega)]
theorem lX_mod {a b : Nat} (ha : a < 2 ^ 62) (hb : b < 2 ^ 62) : lN a - lN a / lN b * lN b = lN (a % b) := by
  rw [lX_div ha hb, lN_mul, lN_sub (Nat.div_mul_le_self _ _)]
  congr 1
  have := Nat.div_add_mod a b
  rw [Nat.mul_comm] at this
  omega
theorem lX_dg {x : Int32} (h : s_nm x) : x.toInt64 + 1000 = lN (s_dg x) := by
  have h1 := s_dg_num h
  have h2 := s_nm_int h
  apply Int64.toInt_inj.mp
  have r : (1000 : Int64).toInt = 1000 := by decide
  rw [lX_toInt (by omega), Int64.toInt_add, Int32.toInt_toInt64, r, h1, Int.bmod_eq_of_le (by omega) (by omega)]
