/-! THE CALLS OF A TRANSACTION KEEP THE INVARIANT -/
section STP
variable {wf : Prop} {M : s_M} {t : Nat}
theorem tx_at (M : s_M) (t : Nat) (x : s_X) : g_X (g_tx M t x) t = x := by
  show (if t = t then x else _) = x
  rw [if_pos rfl]
theorem tx_ne (M : s_M) (t : Nat) (x : s_X) {u : Nat} (h : ¬ u = t) : g_X (g_tx M t x) u = g_X M u := by
  show (if u = t then x else g_X M u) = _
  rw [if_neg h]
/-- an empty one -/
theorem JI_empty (I : J_I wf M) (ht : t < 4) {x : s_X} (hx : x.2.1 = []) (hb : x.1.1 = true → x.1.2.2.1 = g_n M) : J_I wf (g_tx M t x) := by
  have eC : s_CS (g_tx M t x) t = [] := by show (g_X (g_tx M t x) t).2.1 = []; rw [tx_at]; exact hx
  by_cases e : t = 3
  · subst e
    exact JI_tx3 I rfl rfl (fun u hu => tx_ne M 3 x hu) (Nat.le_refl _) eC
  · refine JI_tx (t := t) I (by omega) rfl rfl (fun u hu => tx_ne M t x hu) (Nat.le_refl _) ⟨?_, ?_, qT_nil eC, fun _ => eC⟩ (fun h => Or.inr ?_)
    · rw [eC]; intro y hy; cases hy
    · rw [eC]; exact Nat.zero_le _
    · rw [tx_at] at h ⊢; exact hb h
/-- more readings; other words of its head -/
theorem JI_hd (I : J_I wf M) (ht : t < 4) {x : s_X} (h1 : x.2.1 = (g_X M t).2.1) (h2 : ∀ r ∈ (g_X M t).2.2, r ∈ x.2.2) (h3 : x.1.2.2.1 = (g_X M t).1.2.2.1) (h4 : x.1.1 = (g_X M t).1.1) : J_I wf (g_tx M t x) := by
  have eC : s_CS (g_tx M t x) t = s_CS M t := by show (g_X (g_tx M t x) t).2.1 = _; rw [tx_at]; exact h1
  by_cases e : t = 3
  · subst e
    exact JI_tx3 I rfl rfl (fun u hu => tx_ne M 3 x hu) (Nat.le_refl _) (by rw [eC]; exact I.2.2.1)
  · obtain ⟨b1, b2, b3, b4⟩ := I.2.1 t (by omega)
    refine JI_tx (t := t) I (by omega) rfl rfl (fun u hu => tx_ne M t x hu) (Nat.le_refl _) ⟨by rw [eC]; exact b1, by rw [eC]; exact b2, qT_mono b3 id eC (by rw [tx_at]; exact h2) (Nat.le_refl _) ?_, ?_⟩ (fun h => Or.inl ?_)
    · unfold s_Z
      rw [tx_at, h3]; rfl
    · rw [eC, tx_at, h4]; exact b4
    · rw [tx_at] at h ⊢
      exact ⟨by rw [← h4]; exact h, h3⟩
theorem JI_begin (I : J_I wf M) {x : Int32} {once : Bool} : J_I wf (F_begin M x once).1 := by
  unfold F_begin
  split
  · exact I
  · rename_i h
    exact JI_empty I (z_t4 (by simpa using h)) rfl (fun _ => rfl)
theorem rdk_sub {counts : Bool} {MC : List k_CH} {MR : List (Nat × Nat × Nat)} {c ser : Nat} : ∀ r ∈ MR, r ∈ s_rdk counts MC MR c ser := fun r hr => by
  unfold s_rdk
  split
  · exact List.mem_append.mpr (Or.inl hr)
  · exact hr
theorem JI_rdg (I : J_I wf M) (ht : t < 4) {r : List (Nat × Nat × Nat)} (h : ∀ q ∈ (g_X M t).2.2, q ∈ r) : J_I wf (g_rdg M t r) := JI_hd I ht rfl h rfl rfl
theorem JI_get (I : J_I wf M) {x a b c : Int32} {counts : Bool} : J_I wf (F_get M x a b c counts).1 := by
  unfold F_get
  repeat' split
  all_goals first | exact I | skip
  rename_i h _ _ _
  exact JI_rdg I (z_t4 (by simpa using h)) rdk_sub
theorem JI_range (I : J_I wf M) {x a b : Int32} {counts : Bool} : J_I wf (F_range M x a b counts).1 := by
  by_cases h : s_inB x 0 3 = false
  · unfold F_range; rw [if_pos h]; exact I
  · unfold F_range
    repeat' split
    all_goals first | exact I | exact JI_rdg I (z_t4 (by simpa using h)) (fun q hq => List.mem_append.mpr (Or.inl hq))
theorem JI_rangeAt (I : J_I wf M) {x a b p w : Int32} : J_I wf (F_rangeAt M x a b p w).1 := by
  by_cases h : (s_inB x 0 3 && decide (¬ p < 0)) = false
  · unfold F_rangeAt; rw [if_pos h]; exact I
  · have hx : s_inB x 0 3 = true := by
      have h : (s_inB x 0 3 && decide (¬ p < 0)) = true := by simpa using h
      rw [Bool.and_eq_true] at h; exact h.1
    unfold F_rangeAt
    repeat' split
    all_goals first | exact I | exact JI_rdg I (z_t4 hx) (fun q hq => List.mem_append.mpr (Or.inl hq))
theorem JI_kp (I : J_I wf M) (ht : t < 3) {y : k_CH} (hb : (g_X M t).1.1 = true) (hl : (g_X M t).2.1.length < 12) (h : y3 y) (hs : y.1 = g_ser M + 1) (ho : y_o y.2.2.1 (y.2.2.1 + 1) ∨ y.2.2.1 = s_cd (-5) 0 10000) (hh : y.2.1 = 6 ∨ y_o y.2.2.1 y.2.2.2.1) : J_I wf (g_kp M t y) := by
  have ex : g_X (g_kp M t y) t = ((g_X M t).1, (g_X M t).2.1 ++ [y], (g_X M t).2.2) := by
    show (if t = t then _ else _) = _
    rw [if_pos rfl]
  have eC : s_CS (g_kp M t y) t = s_CS M t ++ [y] := by show (g_X (g_kp M t y) t).2.1 = _; rw [ex]
  obtain ⟨b1, b2, b3, b4⟩ := I.2.1 t ht
  refine JI_tx (t := t) I ht rfl rfl (fun u hu => ?_) (Nat.le_succ _) ⟨fun z hz => ?_, ?_, qT_kp b3 h hs ho hh, fun z => ?_⟩ (fun z => Or.inl ?_)
  · show (if u = t then _ else g_X M u) = _
    rw [if_neg hu]
  · rw [eC] at hz
    rcases List.mem_append.mp hz with g | g
    · exact b1 z g
    · rw [List.mem_singleton.mp g]; exact h
  · rw [eC]
    refine Nat.le_trans List.countP_le_length ?_
    rw [List.length_append]
    show (g_X M t).2.1.length + 1 ≤ 12
    omega
  · rw [ex, hb] at z; cases z
  · rw [ex] at z ⊢
    exact ⟨hb, rfl⟩
theorem cd_ge {a b c : Int32} (h : s_nm a) : 121000000 ≤ s_cd a b c := by
  have := s_dg_num h
  have h1 : 1 ≤ s_dg a := by
    have h2 := h.1
    have : -999 ≤ a.toInt := by
      refine Classical.byContradiction fun z => h2 ?_
      exact Int32.lt_iff_toInt_lt.mpr (by rw [show (-999 : Int32).toInt = -999 from by decide]; omega)
    omega
  unfold s_cd
  omega
theorem rng_nm {a b : Int32} (h : s_rngB a b = true) (hn : ¬ a = 10000) : s_nm a := by
  rcases (s_rngB_na h).1 with e | e
  · exact absurd e hn
  · exact e
theorem JI_change (I : J_I wf M) {x k a b c v : Int32} (hx : t_of x < 3) (hv : y3v v) : J_I wf (F_change M x k a b c v).1 := by
  unfold F_change
  split
  · exact I
  · split
    · exact I
    · split
      · exact I
      · rename_i h1 h2 h3
        obtain ⟨hb, hl⟩ := z_shut h3
        have h2 : (s_inB k 0 6 && (decide (k = 1) || decide (k = 5) || s_inB v (-1000000) 1000000) && s_keyB a b c && !s_inB a (-7) (-1)) = true := eq_true_of_ne_false h2
        simp only [Bool.and_eq_true, Bool.not_eq_true'] at h2
        obtain ⟨⟨⟨hk, -⟩, hkey⟩, hi⟩ := h2
        have o := key_o hkey hi
        obtain ⟨ha, hb2, hc⟩ := s_keyB_na hkey
        have lt := s_cd_lt ha hb2 hc
        exact JI_kp I hx hb hl ⟨lt, by show s_cd a b c + 1 ≤ _; omega, Or.inr ⟨rfl, Or.inl ⟨o, hv, hk, cd_ge (key_nm hkey)⟩⟩⟩ rfl (Or.inl o) (Or.inr o)
theorem JI_clear (I : J_I wf M) {x a b : Int32} (hx : t_of x < 3) : J_I wf (F_clear M x a b).1 := by
  unfold F_clear
  split
  · exact I
  · split
    · exact I
    · split
      · exact I
      · rename_i h1 h2 h3
        obtain ⟨hb, hl⟩ := z_shut h3
        have h2 : (s_rngB a b && !(decide (a = 10000)) && !s_inB a (-7) (-1)) = true := eq_true_of_ne_false h2
        simp only [Bool.and_eq_true, Bool.not_eq_true', decide_eq_false_iff_not] at h2
        obtain ⟨⟨hr, hn⟩, hi⟩ := h2
        obtain ⟨o1, o2, o3, o4⟩ := rng_o hr (fun z => by
          rcases z with z | z
          · exact hn z
          · rw [hi] at z; cases z)
        have o5 : y_o (s_lo a b) (s_lo a b + 1) := by
          rcases o1 with o | o
          · left; omega
          · right; exact o
        exact JI_kp I hx hb hl ⟨o3, o2, Or.inl ⟨rfl, ⟨o4, by show 121000000 ≤ s_lo a b; unfold s_lo; rw [if_neg hn]; exact cd_ge (rng_nm hr hn)⟩, o1⟩⟩ rfl (Or.inl o5) (Or.inr o1)
theorem JI_offer (I : J_I wf M) {x : Int32} {j : Nat} (hx : t_of x < 3) (hj : j < 1000) : J_I wf (F_offer M x (nI j)).1 := by
  unfold F_offer
  split
  · exact I
  · split
    · exact I
    · split
      · exact I
      · rename_i h1 h2 h3
        obtain ⟨hb, hl⟩ := z_shut h3
        exact JI_kp I hx hb hl ⟨by show s_cd (-5) 0 10000 < _; rw [cd5]; omega, by show s_cd (-5) 0 10000 + 1 ≤ _; rw [cd5]; omega, Or.inr ⟨rfl, Or.inr (Or.inl ⟨rfl, rfl, j, hj, rfl⟩)⟩⟩ rfl (Or.inr rfl) (Or.inl rfl)
/-! .. save and erase -/
theorem up_no {n : Nat} {y : k_CH} (hn : n < 12) (h : sv_p9 n y) (h2 : ∃ i, i < 9000 ∧ (y.2.2.1 = wF i n ∨ y.2.2.1 = wN i ∨ y.2.2.1 = wW i n ∨ y.2.2.1 = wR n)) : y_up y = false := by
  cases e : y_up y with
  | false => rfl
  | true =>
    exfalso
    obtain ⟨i, hi, h2⟩ := h2
    have := up_iff.mp e
    rcases h2 with h2 | h2 | h2 | h2 <;> rw [h2] at this
    · unfold wF y_o at this; omega
    · unfold wN y_o at this; omega
    · unfold wW y_o at this; omega
    · unfold wR y_o at this; omega
def lay_ (c : Nat) : Prop := 120153000000 ≤ c ∧ c < 121000000000
theorem kc_cnt {M2 : s_M} {k : Int32} {c : Nat} {v p : Int32} (h : lay_ c) : (s_CS (g_kc M2 t k c v p) t).countP y_up = (s_CS M2 t).countP y_up := by
  show (g_X (g_kc M2 t k c v p) t).2.1.countP y_up = _
  rw [kc_X]
  show ((g_X M2 t).2.1 ++ [_]).countP y_up = _
  rw [List.countP_append, List.countP_singleton, if_neg]
  · rfl
  · intro e
    have := up_iff.mp e
    unfold y_o at this
    have h := h
    unfold lay_ at h
    have t1 : ((g_ser M2 + 1, k, c, c + 1, v, p) : k_CH).2.2.1 = c := rfl
    rw [t1] at this
    omega
theorem one_cnt {M2 : s_M} {b : Bool} {k : Int32} {c : Nat} {v p : Int32} (h : b = true → lay_ c) : (s_CS (sv_1 b t k c v p M2) t).countP y_up = (s_CS M2 t).countP y_up := by
  unfold sv_1
  split
  · rename_i e; exact kc_cnt (h e)
  · rfl
theorem cls_cnt : ∀ (X : List k_K2) (M2 : s_M), (∀ x ∈ X, lay_ x.1) → (s_CS (g_cls t X M2) t).countP y_up = (s_CS M2 t).countP y_up := by
  intro X
  induction X with
  | nil => intro M2 _; rfl
  | cons x X ih =>
    intro M2 h
    exact (ih _ (fun z hz => h z (List.mem_cons_of_mem _ hz))).trans (kc_cnt (h x List.mem_cons_self))
theorem all_cnt {n j : Nat} {saves : Bool} {ro : Option Nat} (h : sv_h M t n j ro) : (s_CS (sv_all M t (nI n) saves (nI j)) t).countP y_up ≤ (s_CS M t).countP y_up := by
  have hh := had_ro h
  obtain ⟨hy, hn, hj, hr, h9⟩ := id h
  have hm : (s_CS (s_mid M t n j saves) t).countP y_up = (s_CS M t).countP y_up := by
    show (s_CS (sv_p (sv_go M t 0 (nI n)) (sv_go M t 1 (nI n)) (g_see M t (sv_re (nI n))).1.isSome saves t (nI n) (o_told (g_see M t (sv_re (nI n))).1) (nI j) (sv_r4 M t (nI n))) t).countP y_up = _
    rw [hh]
    have old : ∀ g : Bool, (g && (ro.map nI).isSome) = true → lay_ (s_cd (-2) (o_told (ro.map nI)) (nI n)) ∧ lay_ (s_cd (-3) (o_told (ro.map nI)) 10000) := fun g z => by
      cases hq : ro with
      | none => rw [hq] at z; rw [Bool.and_eq_true] at z; exact absurd z.2 (by decide)
      | some o =>
        have ho := h9 o hq
        have e1 : s_cd (-2) (o_told (Option.map nI (some o))) (nI n) = wF o n := wF_eq (by omega) (by omega)
        have e2 : s_cd (-3) (o_told (Option.map nI (some o))) 10000 = wN o := wN_eq (by omega)
        rw [e1, e2]
        unfold lay_ wF wN; omega
    unfold sv_p
    rw [one_cnt (fun _ => by rw [wN_eq (by omega)]; unfold lay_ wN; omega), one_cnt (fun z => (old _ z).2), one_cnt (fun _ => by rw [wF_eq (by omega) (by omega)]; unfold lay_ wF; omega), one_cnt (fun z => (old _ z).1)]
    show (g_X (sv_r4 M t (nI n)) t).2.1.countP y_up = _
    rw [(r4_cs M t (nI n)).1]
  have hq : (s_CS (s_q9 M t n j saves) t).countP y_up ≤ (s_CS M t).countP y_up := by
    unfold s_q9 sv_q
    split
    · show (s_CS (g_cls t (s_X9 M t n j saves) (g_sdr (s_mid M t n j saves) t (nI n))) t).countP y_up ≤ _
      rw [cls_cnt _ _ (fun x hx => by have := X9_ly hx; unfold lay_; omega), ← hm]
      show (g_X (g_sdr (s_mid M t n j saves) t (nI n)) t).2.1.countP y_up ≤ _
      rw [sdr_X]
      exact List.Sublist.countP_le List.filter_sublist
    · exact Nat.le_of_eq hm
  show (s_CS (sv_f (sv_go M t 2 (nI n)) saves t (nI n) (nI j) (s_q9 M t n j saves)) t).countP y_up ≤ _
  unfold sv_f
  rw [kc_cnt (by rw [wR_eq (by omega)]; unfold lay_ wR; omega), one_cnt (fun _ => by rw [show s_cd (-4) 0 (nI n) = wW 0 n from wW_eq (u := 0) (by omega) (by omega)]; unfold lay_ wW; omega)]
  exact hq
/-- what a transaction sees of a record -/
theorem see_rec {i N w : Nat} (I : i_I i M N w) (ht : t < 4) {k : Nat} (hk : k < 100) : (g_see M t (sv_re (nI k))).2 = false ∧ ∃ ro : Option Nat, (g_see M t (sv_re (nI k))).1 = ro.map nI ∧ ∀ o, ro = some o → o < 100 := by
  obtain ⟨W, S, R, V, Vs, a, s, b, p, C, D, X, Y, Np, I⟩ := I
  obtain ⟨h1, h2⟩ := see_M (c := sv_re (nI k)) I.2.2.1 I.2.1.2.1.1 ht (Or.inl (re_ly hk))
  refine ⟨h1, ?_⟩
  cases e : (g_see M t (sv_re (nI k))).1 with
  | none => exact ⟨none, rfl, fun o h => by cases h⟩
  | some v =>
    obtain ⟨j, hj, rfl⟩ := h2 k hk rfl v e
    exact ⟨some j, rfl, fun o h => by cases h; exact hj.2.1⟩
theorem JI_saved {i N w : Nat} (I0 : i_I i M N w) (hi : i < 512) (I : J_I wf M) {x : Int32} {n j : Nat} {saves : Bool} (hx : t_of x < 3) (hn : n < 12) (hj : j < 100) : J_I wf (F_saved M x (nI n) saves (nI j)).1 := by
  have e := J_ee I0 hi
  unfold F_saved
  split
  · exact I
  · split
    · exact I
    · split
      · exact I
      · rename_i h1 h2 h3
        have h3 : (g_shut M (t_of x) || sv_st M (t_of x) (nI n)) = false := by simpa using h3
        rw [Bool.or_eq_false_iff] at h3
        obtain ⟨hb, hl⟩ := z_shut (t := t_of x) (M := M) (by rw [h3.1]; decide)
        obtain ⟨b1, b2, b3, b4⟩ := I.2.1 _ hx
        unfold sv_w
        split
        · have hr := r4_cs M (t_of x) (nI n)
          refine JI_tx (t := t_of x) I hx rfl rfl (fun u hu => ?_) (Nat.le_refl _) ⟨?_, ?_, qT_mono b3 id hr.1 (fun r h => r4_sub h) (Nat.le_refl _) ?_, ?_⟩ (fun _ => Or.inl ?_)
          · show g_X (sv_r4 M (t_of x) (nI n)) u = _
            unfold sv_r4 g_rk g_rdg
            rw [tx_ne _ _ _ hu, tx_ne _ _ _ hu, tx_ne _ _ _ hu, tx_ne _ _ _ hu]
          · show ∀ y ∈ (g_X (sv_r4 M (t_of x) (nI n)) (t_of x)).2.1, y3 y
            rw [hr.1]; exact b1
          · show (g_X (sv_r4 M (t_of x) (nI n)) (t_of x)).2.1.countP y_up ≤ 12
            rw [hr.1]; exact b2
          · unfold s_Z
            rw [hr.2]; rfl
          · show (g_X (sv_r4 M (t_of x) (nI n)) (t_of x)).1.1 = false → (g_X (sv_r4 M (t_of x) (nI n)) (t_of x)).2.1 = []
            rw [hr.1, hr.2]; exact b4
          · show (g_X M (t_of x)).1.1 = true ∧ (g_X (sv_r4 M (t_of x) (nI n)) (t_of x)).1.2.2.1 = _
            rw [hr.2]; exact ⟨hb, rfl⟩
        · obtain ⟨-, ro, r1, r2⟩ := see_rec I0 (t := t_of x) (by omega) (k := n) (by omega)
          have h : sv_h M (t_of x) n j ro := ⟨b1, hn, hj, by rw [← r1, see_ord, wR_eq (by omega)], r2⟩
          have h6 : j_6 (s_Z M (t_of x)) := (I.1 _ (e.2.2.2 _ (by omega))).2.1
          have em := em_all (saves := saves) h h6
          obtain ⟨m1, m2, m3, ⟨m4, m5, m6, m7, m8, m9, m10⟩, m11, m12, m13⟩ := em
          refine JI_tx (t := t_of x) I hx m6 (by rw [m5]) m11 m1 ⟨em_y3 h (em_all h h6), Nat.le_trans (all_cnt h) b2, qT_all b3 h e.1 h6, fun z => ?_⟩ (fun _ => Or.inl ⟨hb, by rw [m4]⟩)
          rw [m4, hb] at z; cases z
/-! .. commit -/
theorem JI_ov (I : J_I wf M) (ht : t < 4) : J_I wf (g_tx M t (g_ov (g_X M t))) := JI_empty I ht rfl (fun h => by cases h)
theorem JI_cmt (e : J_e M) (I : J_I wf M) (ht : t < 3) (hb : (g_X M t).1.1 = true) : J_I wf (f_commit M t).1 := by
  have step : J_I wf (f_cmd M t).1 := by
    unfold f_cmd
    split
    · exact I
    · split
      · exact I
      · split
        · exact JI_same I rfl rfl rfl (Nat.le_refl _)
        · rename_i hf
          split
          · exact JI_same I rfl rfl rfl (Nat.le_refl _)
          · have c := JI_commit e I ht hb hf
            have c2 : J_I wf (g_cm (g_sl M 0) (e_all (g_n M + 1) (g_X M t).2.1 (g_E M))) := JI_same c rfl rfl rfl (Nat.le_refl _)
            exact JI_hd c2 (by omega) rfl (fun _ h => h) rfl rfl
  unfold f_commit
  split
  · exact JI_ov I (by omega)
  · split
    · exact step
    · exact JI_ov step (by omega)
theorem JI_Commit (e : J_e M) (I : J_I wf M) {x : Int32} (hx : t_of x < 3) : J_I wf (F_commit M x).1 := by
  unfold F_commit
  split
  · exact I
  · split
    · exact I
    · rename_i h1 h2
      exact JI_cmt e I hx (by simpa using h2)
end STP
