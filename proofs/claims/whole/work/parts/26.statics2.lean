/-! STATIC METHODS, II: of the reference; a number put into a code -/
theorem s_naB {x : Int32} (h : (decide (x = 10000) || s_nmB x) = true) : s_na x := by
  rcases Bool.or_eq_true_iff.mp h with h | h
  · exact Or.inl (of_decide_eq_true h)
  · exact Or.inr (s_nmB_iff.mp h)
theorem s_no_na (n k : Nat) : s_na (s_no n k) := (s_un_na (s_dig_lt n k)).1
section ST2
variable {G : k_G} {l : Launch}
def s_inB (v a b : Int32) : Bool := decide (¬ v < a) && decide (¬ b < v)
theorem c_X12_isIn (ok : k_ok G l) {h : k_H} {w a b : Int32} : k_cti (tX12_isIn G l) [vI w, vI a, vI b] h (fun h' v => h' = h ∧ v = kB (s_inB w a b)) := by
  refine k_cti_of (eX12_isIn ok.2 ?_)
  refine bX12_isIn_0 (fun c1 => ?_) (fun c2 => ?_)
  · refine bX12_isIn_14 ?_
    refine bX12_isIn_15 (by first | exact Or.inl rfl | exact Or.inr rfl | exact kB_bl _) ?_
    (refine ⟨_, rfl, rfl, ?_⟩; unfold s_inB; first | (have c9 := c4; rw [decide_eq_true c2, decide_eq_true c9]; rfl) | (have c9 := c3; rw [decide_eq_false (show ¬ ¬ b < w from fun z => z c9), Bool.and_false]; rfl) | (rw [decide_eq_false (show ¬ ¬ w < a from fun z => z c1)]; rfl))
  · refine bX12_isIn_5 (fun c3 => ?_) (fun c4 => ?_)
    · refine bX12_isIn_14 ?_
      refine bX12_isIn_15 (by first | exact Or.inl rfl | exact Or.inr rfl | exact kB_bl _) ?_
      (refine ⟨_, rfl, rfl, ?_⟩; unfold s_inB; first | (have c9 := c4; rw [decide_eq_true c2, decide_eq_true c9]; rfl) | (have c9 := c3; rw [decide_eq_false (show ¬ ¬ b < w from fun z => z c9), Bool.and_false]; rfl) | (rw [decide_eq_false (show ¬ ¬ w < a from fun z => z c1)]; rfl))
    · refine bX12_isIn_10 ?_
      refine bX12_isIn_15 (by first | exact Or.inl rfl | exact Or.inr rfl | exact kB_bl _) ?_
      (refine ⟨_, rfl, rfl, ?_⟩; unfold s_inB; first | (have c9 := c4; rw [decide_eq_true c2, decide_eq_true c9]; rfl) | (have c9 := c3; rw [decide_eq_false (show ¬ ¬ b < w from fun z => z c9), Bool.and_false]; rfl) | (rw [decide_eq_false (show ¬ ¬ w < a from fun z => z c1)]; rfl))
theorem c_X12_isTransaction (ok : k_ok G l) {h : k_H} {t : Int32} : k_cti (tX12_isTransaction G l) [vI t] h (fun h' v => h' = h ∧ v = kB (s_inB t 0 3)) := by
  refine k_cti_of (eX12_isTransaction ok.2 ?_)
  refine bX12_isTransaction_0 (c_X12_isIn ok) ?_
  rintro h1 v ⟨rfl, rfl⟩
  refine bX12_isTransaction_6 (by first | exact Or.inl rfl | exact Or.inr rfl | exact kB_bl _) ?_
  exact ⟨_, rfl, rfl, rfl⟩
theorem c_X12_isNumber (ok : k_ok G l) {h : k_H} {x : Int32} : k_cti (tX12_isNumber G l) [vI x] h (fun h' v => h' = h ∧ v = kB (s_nmB x)) := by
  refine k_cti_of (eX12_isNumber ok.2 ?_)
  refine bX12_isNumber_0 (c_X12_isIn ok) ?_
  rintro h1 v ⟨rfl, rfl⟩
  refine bX12_isNumber_10 (by first | exact Or.inl rfl | exact Or.inr rfl | exact kB_bl _) ?_
  exact ⟨_, rfl, rfl, congrArg kB (by unfold s_inB s_nmB; exact Eq.refl _)⟩
theorem c_X12_isIndex (ok : k_ok G l) {h : k_H} {x : Int32} : k_cti (tX12_isIndex G l) [vI x] h (fun h' v => h' = h ∧ v = kB (s_inB x 0 2)) := by
  refine k_cti_of (eX12_isIndex ok.2 ?_)
  refine bX12_isIndex_0 (c_X12_isIn ok) ?_
  rintro h1 v ⟨rfl, rfl⟩
  refine bX12_isIndex_6 (by first | exact Or.inl rfl | exact Or.inr rfl | exact kB_bl _) ?_
  exact ⟨_, rfl, rfl, rfl⟩
theorem c_X12_isWorker (ok : k_ok G l) {h : k_H} {x : Int32} : k_cti (tX12_isWorker G l) [vI x] h (fun h' v => h' = h ∧ v = kB (s_inB x 0 2)) := by
  refine k_cti_of (eX12_isWorker ok.2 ?_)
  refine bX12_isWorker_0 (c_X12_isIn ok) ?_
  rintro h1 v ⟨rfl, rfl⟩
  refine bX12_isWorker_6 (by first | exact Or.inl rfl | exact Or.inr rfl | exact kB_bl _) ?_
  exact ⟨_, rfl, rfl, rfl⟩
theorem c_X12_isKey (ok : k_ok G l) {h : k_H} {a b c : Int32} : k_cti (tX12_isKey G l) [vI a, vI b, vI c] h (fun h' v => h' = h ∧ v = kB (s_keyB a b c)) := by
  refine k_cti_of (eX12_isKey ok.2 ?_)
  refine bX12_isKey_0 (c_X12_isNumber ok) ?_
  rintro h1 v ⟨rfl, rfl⟩
  refine bX12_isKey_4 (fun c1 => ?_) (fun c2 => ?_)
  · refine bX12_isKey_46 ?_
    refine bX12_isKey_47 (by first | exact Or.inl rfl | exact Or.inr rfl | exact kB_bl _) ?_
    exact ⟨_, rfl, rfl, by symm; simp_all [kB_0, kB_n0, kB_1, s_keyB, s_rngB, nB_no]⟩
  · refine bX12_isKey_7 (c_X12_isNumber ok) ?_
    rintro h1 v ⟨rfl, rfl⟩
    refine bX12_isKey_11 (fun c3 => ?_) (fun c4 => ?_)
    · refine bX12_isKey_28 (fun c5 => ?_) (fun c6 => ?_)
      · refine bX12_isKey_46 ?_
        refine bX12_isKey_47 (by first | exact Or.inl rfl | exact Or.inr rfl | exact kB_bl _) ?_
        exact ⟨_, rfl, rfl, by symm; simp_all [kB_0, kB_n0, kB_1, s_keyB, s_rngB, nB_no]⟩
      · refine bX12_isKey_35 (fun c7 => ?_) (fun c8 => ?_)
        · refine bX12_isKey_46 ?_
          refine bX12_isKey_47 (by first | exact Or.inl rfl | exact Or.inr rfl | exact kB_bl _) ?_
          exact ⟨_, rfl, rfl, by symm; simp_all [kB_0, kB_n0, kB_1, s_keyB, s_rngB, nB_no]⟩
        · refine bX12_isKey_42 ?_
          refine bX12_isKey_47 (by first | exact Or.inl rfl | exact Or.inr rfl | exact kB_bl _) ?_
          exact ⟨_, rfl, rfl, by symm; simp_all [kB_0, kB_n0, kB_1, s_keyB, s_rngB, nB_no]⟩
    · refine bX12_isKey_14 (c_X12_isNumber ok) ?_
      rintro h1 v ⟨rfl, rfl⟩
      refine bX12_isKey_18 (fun c9 => ?_) (fun c10 => ?_)
      · refine bX12_isKey_42 ?_
        refine bX12_isKey_47 (by first | exact Or.inl rfl | exact Or.inr rfl | exact kB_bl _) ?_
        exact ⟨_, rfl, rfl, by symm; simp_all [kB_0, kB_n0, kB_1, s_keyB, s_rngB, nB_no]⟩
      · refine bX12_isKey_21 (fun c11 => ?_) (fun c12 => ?_)
        · refine bX12_isKey_42 ?_
          refine bX12_isKey_47 (by first | exact Or.inl rfl | exact Or.inr rfl | exact kB_bl _) ?_
          exact ⟨_, rfl, rfl, by symm; simp_all [kB_0, kB_n0, kB_1, s_keyB, s_rngB, nB_no]⟩
        · refine bX12_isKey_28 (fun c13 => ?_) (fun c14 => ?_)
          · refine bX12_isKey_46 ?_
            refine bX12_isKey_47 (by first | exact Or.inl rfl | exact Or.inr rfl | exact kB_bl _) ?_
            exact ⟨_, rfl, rfl, by symm; simp_all [kB_0, kB_n0, kB_1, s_keyB, s_rngB, nB_no]⟩
          · refine bX12_isKey_35 (fun c15 => ?_) (fun c16 => ?_)
            · refine bX12_isKey_46 ?_
              refine bX12_isKey_47 (by first | exact Or.inl rfl | exact Or.inr rfl | exact kB_bl _) ?_
              exact ⟨_, rfl, rfl, by symm; simp_all [kB_0, kB_n0, kB_1, s_keyB, s_rngB, nB_no]⟩
            · refine bX12_isKey_42 ?_
              refine bX12_isKey_47 (by first | exact Or.inl rfl | exact Or.inr rfl | exact kB_bl _) ?_
              exact ⟨_, rfl, rfl, by symm; simp_all [kB_0, kB_n0, kB_1, s_keyB, s_rngB, nB_no]⟩
theorem c_X12_isRange (ok : k_ok G l) {h : k_H} {a b : Int32} : k_cti (tX12_isRange G l) [vI a, vI b] h (fun h' v => h' = h ∧ v = kB (s_rngB a b)) := by
  refine k_cti_of (eX12_isRange ok.2 ?_)
  refine bX12_isRange_0 (fun c1 => ?_) (fun c2 => ?_)
  · refine bX12_isRange_22 (c_X12_isNumber ok) ?_
    rintro h1 v ⟨rfl, rfl⟩
    refine bX12_isRange_26 (fun c3 => ?_) (fun c4 => ?_)
    · refine bX12_isRange_47 ?_
      refine bX12_isRange_48 (by first | exact Or.inl rfl | exact Or.inr rfl | exact kB_bl _) ?_
      exact ⟨_, rfl, rfl, by symm; simp_all [kB_0, kB_n0, kB_1, s_keyB, s_rngB, nB_no]⟩
    · refine bX12_isRange_29 (c_X12_isNumber ok) ?_
      rintro h1 v ⟨rfl, rfl⟩
      refine bX12_isRange_33 (fun c5 => ?_) (fun c6 => ?_)
      · refine bX12_isRange_43 ?_
        refine bX12_isRange_48 (by first | exact Or.inl rfl | exact Or.inr rfl | exact kB_bl _) ?_
        exact ⟨_, rfl, rfl, by symm; simp_all [kB_0, kB_n0, kB_1, s_keyB, s_rngB, nB_no]⟩
      · refine bX12_isRange_36 (fun c7 => ?_) (fun c8 => ?_)
        · refine bX12_isRange_47 ?_
          refine bX12_isRange_48 (by first | exact Or.inl rfl | exact Or.inr rfl | exact kB_bl _) ?_
          exact ⟨_, rfl, rfl, by symm; simp_all [kB_0, kB_n0, kB_1, s_keyB, s_rngB, nB_no]⟩
        · refine bX12_isRange_43 ?_
          refine bX12_isRange_48 (by first | exact Or.inl rfl | exact Or.inr rfl | exact kB_bl _) ?_
          exact ⟨_, rfl, rfl, by symm; simp_all [kB_0, kB_n0, kB_1, s_keyB, s_rngB, nB_no]⟩
  · refine bX12_isRange_7 (fun c9 => ?_) (fun c10 => ?_)
    · refine bX12_isRange_18 ?_
      refine bX12_isRange_48 (by first | exact Or.inl rfl | exact Or.inr rfl | exact kB_bl _) ?_
      exact ⟨_, rfl, rfl, by symm; simp_all [kB_0, kB_n0, kB_1, s_keyB, s_rngB, nB_no]⟩
    · refine bX12_isRange_14 ?_
      refine bX12_isRange_48 (by first | exact Or.inl rfl | exact Or.inr rfl | exact kB_bl _) ?_
      exact ⟨_, rfl, rfl, by symm; simp_all [kB_0, kB_n0, kB_1, s_keyB, s_rngB, nB_no]⟩
theorem c_X12_digit (ok : k_ok G l) {h : k_H} {x : Int32} (hx : s_na x) : k_ctj (tX12_digit G l) [vI x] h (fun h' v => h' = h ∧ v = lN (s_dg x)) := by
  refine k_ctj_of (eX12_digit ok.2 ?_)
  refine bX12_digit_0 (fun c1 => ?_) (fun c2 => ?_)
  · refine bX12_digit_11 ?_
    refine bX12_digit_17 ?_
    first | (have c9 := c2; exact ⟨_, rfl, rfl, Eq.trans (b := lN 0) (by decide) (by rw [c9, s_dg_none])⟩) | exact ⟨_, rfl, rfl, lX_dg (hx.resolve_left c1)⟩
  · refine bX12_digit_7 ?_
    refine bX12_digit_17 ?_
    first | (have c9 := c2; exact ⟨_, rfl, rfl, Eq.trans (b := lN 0) (by decide) (by rw [c9, s_dg_none])⟩) | exact ⟨_, rfl, rfl, lX_dg (hx.resolve_left c1)⟩
theorem c_X12_codeOf (ok : k_ok G l) {h : k_H} {a b c : Int32} (ha : s_na a) (hb : s_na b) (hc : s_na c) : k_ctj (tX12_codeOf G l) [vI a, vI b, vI c] h (fun h' v => h' = h ∧ v = lN (s_cd a b c)) := by
  refine k_ctj_of (eX12_codeOf ok.2 ?_)
  refine bX12_codeOf_0 (c_X12_digit ok (by assumption)) ?_
  rintro h1 v ⟨rfl, rfl⟩
  refine bX12_codeOf_4 (c_X12_digit ok (by assumption)) ?_
  rintro h1 v ⟨rfl, rfl⟩
  refine bX12_codeOf_12 (c_X12_digit ok (by assumption)) ?_
  rintro h1 v ⟨rfl, rfl⟩
  refine bX12_codeOf_21 ?_
  exact ⟨_, rfl, rfl, by rw [show (11000 : Int64) = lN 11000 from rfl, lN_mul, lN_add, lN_mul, lN_add]; rfl⟩
theorem c_X12_firstOf (ok : k_ok G l) {h : k_H} {a b : Int32} (ha : s_na a) (hb : s_na b) : k_ctj (tX12_firstOf G l) [vI a, vI b] h (fun h' v => h' = h ∧ v = lN (s_lo a b)) := by
  refine k_ctj_of (eX12_firstOf ok.2 ?_)
  refine bX12_firstOf_0 (fun c1 => ?_) (fun c2 => ?_)
  · refine bX12_firstOf_11 (c_X12_codeOf ok (by assumption) (by assumption) (Or.inl rfl)) ?_
    rintro h1 v ⟨rfl, rfl⟩
    refine bX12_firstOf_19 ?_
    exact ⟨_, rfl, rfl, by simp_all [s_lo]; try rfl⟩
  · refine bX12_firstOf_7 ?_
    refine bX12_firstOf_19 ?_
    exact ⟨_, rfl, rfl, by simp_all [s_lo]; try rfl⟩
/-- the last code of a range -/
def s_la (a b : Int32) : Nat := if a = 10000 then 1331000000000 else s_hi a b - 1
theorem s_la_1 {d : Nat} : ((((lN d + 1) * 11000) * 11000) - 1 : Int64) = lN ((d * 11000 + 0) * 11000 + 0 + 121000000 - 1) := by
  rw [show (11000 : Int64) = lN 11000 from rfl, show (1 : Int64) = lN 1 from rfl, lN_add, lN_mul, lN_mul, lN_sub (by omega)]
  exact congrArg lN (by omega)
theorem s_la_2 {d e : Nat} : (((lN d * 11000 + lN e) + 1) * 11000 - 1 : Int64) = lN ((d * 11000 + e) * 11000 + 0 + 11000 - 1) := by
  rw [show (11000 : Int64) = lN 11000 from rfl, show (1 : Int64) = lN 1 from rfl, lN_mul, lN_add, lN_add, lN_mul, lN_sub (by omega)]
  exact congrArg lN (by omega)
theorem c_X12_lastOf (ok : k_ok G l) {h : k_H} {a b : Int32} (ha : s_na a) (hb : s_na b) : k_ctj (tX12_lastOf G l) [vI a, vI b] h (fun h' v => h' = h ∧ v = lN (s_la a b)) := by
  refine k_ctj_of (eX12_lastOf ok.2 ?_)
  refine bX12_lastOf_0 (fun c1 => ?_) (fun c2 => ?_)
  · refine bX12_lastOf_13 (fun c3 => ?_) (fun c4 => ?_)
    · refine bX12_lastOf_39 (c_X12_digit ok (by assumption)) ?_
      rintro h1 v ⟨rfl, rfl⟩
      refine bX12_lastOf_43 (c_X12_digit ok (by assumption)) ?_
      rintro h1 v ⟨rfl, rfl⟩
      refine bX12_lastOf_51 ?_
      refine bX12_lastOf_60 ?_
      (refine ⟨_, rfl, rfl, ?_⟩; unfold s_la s_hi s_cd; first | (have c9 := c4; rw [if_neg c1, if_neg c1, if_pos c9, c9, s_dg_none]; exact s_la_1) | (have c9 := c3; rw [if_neg c1, if_neg c1, if_neg c9, s_dg_none]; exact s_la_2) | (rw [if_pos c2]; rfl))
    · refine bX12_lastOf_20 (c_X12_digit ok (by assumption)) ?_
      rintro h1 v ⟨rfl, rfl⟩
      refine bX12_lastOf_24 ?_
      refine bX12_lastOf_60 ?_
      (refine ⟨_, rfl, rfl, ?_⟩; unfold s_la s_hi s_cd; first | (have c9 := c4; rw [if_neg c1, if_neg c1, if_pos c9, c9, s_dg_none]; exact s_la_1) | (have c9 := c3; rw [if_neg c1, if_neg c1, if_neg c9, s_dg_none]; exact s_la_2) | (rw [if_pos c2]; rfl))
  · refine bX12_lastOf_7 ?_
    refine bX12_lastOf_60 ?_
    (refine ⟨_, rfl, rfl, ?_⟩; unfold s_la s_hi s_cd; first | (have c9 := c4; rw [if_neg c1, if_neg c1, if_pos c9, c9, s_dg_none]; exact s_la_1) | (have c9 := c3; rw [if_neg c1, if_neg c1, if_neg c9, s_dg_none]; exact s_la_2) | (rw [if_pos c2]; rfl))
theorem c_X12_recordOf (ok : k_ok G l) {h : k_H} {n : Int32} (hn : s_na n) : k_ctj (tX12_recordOf G l) [vI n] h (fun h' v => h' = h ∧ v = lN (s_cd (-1) n 10000)) := by
  refine k_ctj_of (eX12_recordOf ok.2 ?_)
  refine bX12_recordOf_0 (c_X12_codeOf ok (s_naB (by decide)) hn (Or.inl rfl)) ?_
  rintro h1 v ⟨rfl, rfl⟩
  refine bX12_recordOf_8 ?_
  exact ⟨_, rfl, rfl, rfl⟩
theorem c_X12_indexOf (ok : k_ok G l) {h : k_H} {n : Int32} (hn : s_na n) : k_ctj (tX12_indexOf G l) [vI n] h (fun h' v => h' = h ∧ v = lN (s_cd (-6) n 10000)) := by
  refine k_ctj_of (eX12_indexOf ok.2 ?_)
  refine bX12_indexOf_0 (c_X12_codeOf ok (s_naB (by decide)) hn (Or.inl rfl)) ?_
  rintro h1 v ⟨rfl, rfl⟩
  refine bX12_indexOf_9 ?_
  exact ⟨_, rfl, rfl, rfl⟩
def s_goes (st n : Int32) : Bool := decide (st = -2147483648) || decide (¬ st = -1000) && decide (n ≤ st)
theorem c_X12_goesFor (ok : k_ok G l) {h : k_H} {st n : Int32} : k_cti (tX12_goesFor G l) [vI st, vI n] h (fun h' v => h' = h ∧ v = kB (s_goes st n)) := by
  refine k_cti_of (eX12_goesFor ok.2 ?_)
  refine bX12_goesFor_0 (fun c1 => ?_) (fun c2 => ?_)
  · refine bX12_goesFor_18 ?_
    refine bX12_goesFor_23 (by first | exact Or.inl rfl | exact Or.inr rfl | exact kB_bl _) ?_
    exact ⟨_, rfl, rfl, by symm; simp_all [kB_0, kB_1, s_goes]⟩
  · refine bX12_goesFor_6 (fun c3 => ?_) (fun c4 => ?_)
    · refine bX12_goesFor_22 ?_
      refine bX12_goesFor_23 (by first | exact Or.inl rfl | exact Or.inr rfl | exact kB_bl _) ?_
      exact ⟨_, rfl, rfl, by symm; simp_all [kB_0, kB_1, s_goes]⟩
    · refine bX12_goesFor_13 (fun c5 => ?_) (fun c6 => ?_)
      · refine bX12_goesFor_22 ?_
        refine bX12_goesFor_23 (by first | exact Or.inl rfl | exact Or.inr rfl | exact kB_bl _) ?_
        exact ⟨_, rfl, rfl, by symm; simp_all [kB_0, kB_1, s_goes]⟩
      · refine bX12_goesFor_18 ?_
        refine bX12_goesFor_23 (by first | exact Or.inl rfl | exact Or.inr rfl | exact kB_bl _) ?_
        exact ⟨_, rfl, rfl, by symm; simp_all [kB_0, kB_1, s_goes]⟩
theorem c_X11_indexGoesTo (ok : k_ok G l) {h : k_H} {st : Int32} : k_cti (tX11_indexGoesTo G l) [vI st] h (fun h' v => h' = h ∧ v = (if st = -2147483648 then 1000 else st)) := by
  refine k_cti_of (eX11_indexGoesTo ok.2 ?_)
  refine bX11_indexGoesTo_0 (fun c1 => ?_) (fun c2 => ?_)
  · refine bX11_indexGoesTo_12 ?_
    refine bX11_indexGoesTo_13 ?_
    exact ⟨_, rfl, rfl, by simp_all⟩
  · refine bX11_indexGoesTo_6 ?_
    refine bX11_indexGoesTo_13 ?_
    exact ⟨_, rfl, rfl, by simp_all⟩
/-- a number put into a code -/
def s_with (n k : Nat) (x : Int32) : Nat := s_cd (if k = 0 then x else s_no n 0) (if k = 1 then x else s_no n 1) (if k = 2 then x else s_no n 2)
theorem n_w0 (a b c : Nat) : b * 11000 + c + a * 121000000 = (a * 11000 + b) * 11000 + c := by omega
theorem n_w1 (a b c : Nat) : a * 121000000 + c + b * 11000 = (a * 11000 + b) * 11000 + c := by omega
theorem n_w2 (a b c : Nat) : a * 121000000 + b * 11000 + c * 1 = (a * 11000 + b) * 11000 + c := by omega
theorem l_ring {a r d x u : Int64} (h : a = r + d * u) : a + (x - d) * u = r + x * u := by rw [h, Int64.sub_mul, Int64.add_assoc, Int64.add_comm (d * u), Int64.sub_add_cancel]
theorem s_with_long {n : Nat} {p x : Int32} (hn : n < 1331000000000) (hx : s_na x) : lN n + (lN (s_dg x) - lN (s_dg (s_no n (s_pl p)))) * lN (s_unit p) = lN (s_with n (s_pl p) x) := by
  have h0 := (s_un_na (s_dig_lt n 0)).2
  have h1 := (s_un_na (s_dig_lt n 1)).2
  have h2 := (s_un_na (s_dig_lt n 2)).2
  have hd := s_cd_dig hn
  by_cases c0 : p = 0
  · have e1 : s_pl p = 0 := by unfold s_pl; rw [if_pos c0]
    have e2 : s_unit p = 121000000 := by unfold s_unit; rw [if_pos c0]
    rw [e1, e2]
    have e3 : s_dg (s_no n 0) = s_dig n 0 := h0
    have e4 : lN n = lN (s_dig n 1 * 11000 + s_dig n 2) + lN (s_dig n 0) * lN 121000000 := by rw [lN_mul, lN_add]; exact congrArg lN (by omega)
    rw [e3, l_ring e4, lN_mul, lN_add]
    refine congrArg lN ?_
    show _ = (s_dg x * 11000 + s_dg (s_no n 1)) * 11000 + s_dg (s_no n 2)
    rw [show s_dg (s_no n 1) = s_dig n 1 from h1, show s_dg (s_no n 2) = s_dig n 2 from h2]
    exact n_w0 _ _ _
  · by_cases c1 : p = 1
    · have e1 : s_pl p = 1 := by unfold s_pl; rw [if_neg c0, if_pos c1]
      have e2 : s_unit p = 11000 := by unfold s_unit; rw [if_neg c0, if_pos c1]
      rw [e1, e2]
      have e3 : s_dg (s_no n 1) = s_dig n 1 := h1
      have e4 : lN n = lN (s_dig n 0 * 121000000 + s_dig n 2) + lN (s_dig n 1) * lN 11000 := by rw [lN_mul, lN_add]; exact congrArg lN (by omega)
      rw [e3, l_ring e4, lN_mul, lN_add]
      refine congrArg lN ?_
      show _ = (s_dg (s_no n 0) * 11000 + s_dg x) * 11000 + s_dg (s_no n 2)
      rw [show s_dg (s_no n 0) = s_dig n 0 from h0, show s_dg (s_no n 2) = s_dig n 2 from h2]
      exact n_w1 _ _ _
    · have e1 : s_pl p = 2 := by unfold s_pl; rw [if_neg c0, if_neg c1]
      have e2 : s_unit p = 1 := by unfold s_unit; rw [if_neg c0, if_neg c1]
      rw [e1, e2]
      have e3 : s_dg (s_no n 2) = s_dig n 2 := h2
      have e4 : lN n = lN (s_dig n 0 * 121000000 + s_dig n 1 * 11000) + lN (s_dig n 2) * lN 1 := by rw [lN_mul, lN_add]; exact congrArg lN (by omega)
      rw [e3, l_ring e4, lN_mul, lN_add]
      refine congrArg lN ?_
      show _ = (s_dg (s_no n 0) * 11000 + s_dg (s_no n 1)) * 11000 + s_dg x
      rw [show s_dg (s_no n 0) = s_dig n 0 from h0, show s_dg (s_no n 1) = s_dig n 1 from h1]
      exact n_w2 _ _ _
theorem c_X11_withNumber (ok : k_ok G l) {h : k_H} {n : Nat} {p x : Int32} (hn : n < 1331000000000) (hx : s_na x) : k_ctj (tX11_withNumber G l) [vJ (lN n), vI p, vI x] h (fun h' v => h' = h ∧ v = lN (s_with n (s_pl p) x)) := by
  refine k_ctj_of (eX11_withNumber ok.2 ?_)
  refine bX11_withNumber_0 (c_X11_digitOf ok (by assumption)) ?_
  rintro h1 v ⟨rfl, rfl⟩
  refine bX11_withNumber_5 (c_X11_numberOf ok (by assumption)) ?_
  rintro h1 v ⟨rfl, rfl⟩
  refine bX11_withNumber_10 (c_X11_digitOf ok (s_no_na _ _)) ?_
  rintro h1 v ⟨rfl, rfl⟩
  refine bX11_withNumber_13 (c_X11_unitOf ok) ?_
  rintro h1 v ⟨rfl, rfl⟩
  refine bX11_withNumber_18 ?_
  exact ⟨_, rfl, rfl, s_with_long hn hx⟩
/-- which number of a stamped key is stamped, by the reference -/
def s_stp (kind : Int32) (n : Nat) : Nat := if kind = 8 then 1 else if s_no n 1 = 10000 then 0 else if s_no n 2 = 10000 then 1 else 2
theorem c_X12_stamped (ok : k_ok G l) {h : k_H} {n : Nat} {k x : Int32} (hn : n < 1331000000000) (hx : s_na x) : k_ctj (tX12_stamped G l) [vJ (lN n), vI k, vI x] h (fun h' v => h' = h ∧ v = lN (s_with n (s_stp k n) x)) := by
  refine k_ctj_of (eX12_stamped ok.2 ?_)
  refine bX12_stamped_0 (c_X12_numberOf ok (by assumption)) ?_
  rintro h1 v ⟨rfl, rfl⟩
  refine bX12_stamped_5 (c_X12_numberOf ok (by assumption)) ?_
  rintro h1 v ⟨rfl, rfl⟩
  refine bX12_stamped_12 (c_X12_numberOf ok (by assumption)) ?_
  rintro h1 v ⟨rfl, rfl⟩
  refine bX12_stamped_19 (fun c1 => ?_) (fun c2 => ?_)
  · refine bX12_stamped_43 (c_X12_codeOf ok (by first | assumption | exact s_no_na _ _) (by first | assumption | exact s_no_na _ _) (by first | assumption | exact s_no_na _ _)) ?_
    rintro h1 v ⟨rfl, rfl⟩
    refine bX12_stamped_51 ?_
    refine bX12_stamped_81 ?_
    exact ⟨_, rfl, rfl, by simp_all [s_with, s_stp, s_pl]⟩
  · refine bX12_stamped_27 (fun c3 => ?_) (fun c4 => ?_)
    · refine bX12_stamped_54 (fun c5 => ?_) (fun c6 => ?_)
      · refine bX12_stamped_73 (c_X12_codeOf ok (by first | assumption | exact s_no_na _ _) (by first | assumption | exact s_no_na _ _) (by first | assumption | exact s_no_na _ _)) ?_
        rintro h1 v ⟨rfl, rfl⟩
        refine bX12_stamped_81 ?_
        exact ⟨_, rfl, rfl, by simp_all [s_with, s_stp, s_pl]⟩
      · refine bX12_stamped_62 (c_X12_codeOf ok (by first | assumption | exact s_no_na _ _) (by first | assumption | exact s_no_na _ _) (by first | assumption | exact s_no_na _ _)) ?_
        rintro h1 v ⟨rfl, rfl⟩
        refine bX12_stamped_70 ?_
        refine bX12_stamped_81 ?_
        exact ⟨_, rfl, rfl, by simp_all [s_with, s_stp, s_pl]⟩
    · refine bX12_stamped_35 (fun c7 => ?_) (fun c8 => ?_)
      · refine bX12_stamped_54 (fun c9 => ?_) (fun c10 => ?_)
        · refine bX12_stamped_73 (c_X12_codeOf ok (by first | assumption | exact s_no_na _ _) (by first | assumption | exact s_no_na _ _) (by first | assumption | exact s_no_na _ _)) ?_
          rintro h1 v ⟨rfl, rfl⟩
          refine bX12_stamped_81 ?_
          exact ⟨_, rfl, rfl, by simp_all [s_with, s_stp, s_pl]⟩
        · refine bX12_stamped_62 (c_X12_codeOf ok (by first | assumption | exact s_no_na _ _) (by first | assumption | exact s_no_na _ _) (by first | assumption | exact s_no_na _ _)) ?_
          rintro h1 v ⟨rfl, rfl⟩
          refine bX12_stamped_70 ?_
          refine bX12_stamped_81 ?_
          exact ⟨_, rfl, rfl, by simp_all [s_with, s_stp, s_pl]⟩
      · refine bX12_stamped_43 (c_X12_codeOf ok (by first | assumption | exact s_no_na _ _) (by first | assumption | exact s_no_na _ _) (by first | assumption | exact s_no_na _ _)) ?_
        rintro h1 v ⟨rfl, rfl⟩
        refine bX12_stamped_51 ?_
        refine bX12_stamped_81 ?_
        exact ⟨_, rfl, rfl, by simp_all [s_with, s_stp, s_pl]⟩
end ST2
