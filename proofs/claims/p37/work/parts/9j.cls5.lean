section
/-! THE CLASS'S DIRECTORIES -/
def c_dp (a : Nat) (h : k_H) (D : List s_D) (da : Nat → Nat) : Prop := (∃ cap : Nat, h.1 (a + 13) = some (k_l (D.map (fun x => da x.1)) cap)) ∧ (∀ x ∈ D, h.1 (da x.1) = some (k_o 5 [vI (nI x.1), vI (nI x.2.2.2), vR (x.2.1.map da), vI (nI x.2.2.1)])) ∧ ∀ x ∈ D, ∀ y ∈ D, da x.1 = da y.1 → x.1 = y.1
theorem dr_dp {a : Nat} {h : k_H} {D : List s_D} (r : c_dr a h D) : ∃ da, c_dp a h D da := by
  obtain ⟨da, cap, b1, b2, b3⟩ := r
  exact ⟨da, ⟨cap, b1⟩, b2, b3⟩
theorem dp_dr {a : Nat} {h : k_H} {D : List s_D} {da : Nat → Nat} (p : c_dp a h D da) : c_dr a h D := by
  obtain ⟨⟨cap, b1⟩, b2, b3⟩ := p
  exact ⟨da, cap, b1, b2, b3⟩
theorem dp_fr {a : Nat} {K : List Nat} {A : Nat → Prop} {h h' : k_H} {D : List s_D} {da : Nat → Nat} (b : c_dp a h D da) (m : k_fr K A h h') (hK : 5 ∉ K) (hA : ¬ A (a + 13)) (hO : ∀ q fs, h.1 q = some (k_o 5 fs) → ¬ A q) : c_dp a h' D da := by
  obtain ⟨⟨cap, b1⟩, b2, b3⟩ := b
  exact ⟨⟨cap, m _ _ b1 hA (fun ci fs e => by cases e)⟩, fun x hx => m _ _ (b2 x hx) (hO _ _ (b2 x hx)) (fun ci fs e => by cases e; exact hK), b3⟩
theorem W_dp {a N w : Nat} {B : Nat × Nat} {h : k_H} {M : s_M} (W : c_W a B h M N w) : ∃ da, c_dp a h (g_DS M).1 da := by
  obtain ⟨Q, S, PS, s, r, p, co⟩ := W
  exact dr_dp r.2.2.2.2.2.1
def d_ok (D : List s_D × Nat) : Prop := d_wf D ∧ D.2 ≤ 1024 ∧ (∀ d ∈ D.1, d.1 < D.2) ∧ D.1.length ≤ 1024
theorem d_par {D : List s_D × Nat} (w : d_wf D) {y : s_D} (hy : y ∈ D.1) {q : Nat} (hq : y.2.1 = some q) : ∃ e ∈ D.1, e.1 = q := by
  by_cases h0 : y.1 = 0
  · rw [d_root w hy h0] at hq; cases hq
  · obtain ⟨p, hp, e⟩ := w.2.2.1 y hy h0
    rw [hq] at hp
    cases hp
    exact e
theorem find_cg {A : Type} {p q : A → Bool} : ∀ {l : List A}, (∀ x ∈ l, p x = q x) → l.find? p = l.find? q := by
  intro l
  induction l with
  | nil => exact fun _ => rfl
  | cons x l ih =>
    intro h
    rw [List.find?_cons, List.find?_cons, h x List.mem_cons_self, ih (fun y hy => h y (List.mem_cons_of_mem _ hy))]
def d_ch (D : List s_D) (p : Nat) (nm : Int32) : Option s_D := D.find? (fun d => decide (d.2.1 = some p) && decide (nI d.2.2.1 = nm))
theorem d_nm_ch {D : List s_D × Nat} (ok : d_ok D) {p : Nat} (hp : ∃ e ∈ D.1, e.1 = p) (nm : Int32) : d_nm D.1 (nI p) nm = match d_ch D.1 p nm with | some d => nI d.1 | none => -2147483648 := by
  obtain ⟨w, h1, h2, h3⟩ := ok
  unfold d_nm d_ch
  have hpl : p < 2 ^ 31 := by obtain ⟨e, he, rfl⟩ := hp; have := h2 e he; omega
  have e : D.1.find? (fun d => !(decide (d.1 = 0)) && decide (m_par d.2.1 = nI p) && decide (nI d.2.2.1 = nm)) = D.1.find? (fun d => decide (d.2.1 = some p) && decide (nI d.2.2.1 = nm)) := by
    refine find_cg fun d hd => ?_
    congr 1
    by_cases h0 : d.1 = 0
    · rw [d_root w hd h0]
      rfl
    · rw [decide_eq_false h0, Bool.not_false, Bool.true_and]
      obtain ⟨q, hq, e, he, e2⟩ := w.2.2.1 d hd h0
      rw [hq]
      show decide (nI q = nI p) = _
      have := h2 e he
      refine decide_eq_decide.mpr ?_
      rw [nI_eq (by omega) hpl]
      exact ⟨fun z => by rw [z], fun z => by cases z; rfl⟩
  rw [e]
  rfl
theorem d_ch_mem {D : List s_D} {p : Nat} {nm : Int32} {d : s_D} (h : d_ch D p nm = some d) : d ∈ D := List.mem_of_find?_eq_some h
theorem d_is_find {D : List s_D × Nat} {x : Int32} : d_is D x = (D.1.find? (fun d => decide (nI d.1 = x))).isSome := by
  unfold d_is
  rw [Bool.eq_iff_iff, List.find?_isSome, List.any_eq_true]
theorem in9 {x : Int32} (h : s_inB x 0 9 = true) : 0 ≤ x ∧ x ≤ 9 := by
  unfold s_inB at h
  simp only [Bool.and_eq_true, decide_eq_true_eq, Int32.not_lt] at h
  exact h
theorem in9_not {x : Int32} (h : s_inB x 0 9 = false) : ¬ (0 ≤ x ∧ x ≤ 9) := fun z => by
  unfold s_inB at h
  rw [decide_eq_true (Int32.not_lt.mpr z.1), decide_eq_true (Int32.not_lt.mpr z.2)] at h
  cases h
section CDI
variable {G : k_G} {l : Launch}
theorem c_findDir (ok : k_ok G l) {a : Nat} {h : k_H} {fs : List k_V} {D : List s_D} {da : Nat → Nat} {x : Int32} (o14 : h.1 a = some (k_o 14 fs)) (g5 : fs[5]? = some (vR (some (a + 13)))) (dp : c_dp a h D da) (hl : D.length < 2 ^ 20) :
    k_ctr (tX11_findDirectory G l) [vR (some a), vI x] h (fun h' v => h' = h ∧ v = (D.find? (fun d => decide (nI d.1 = x))).map (fun d => da d.1)) := by
  obtain ⟨⟨cap, b1⟩, b2, b3⟩ := dp
  refine k_ctr_of (eX11_findDirectory ok.2 (bX11_findDirectory_0 ?_))
  have key : ∀ (todo pre : List s_D), D = pre ++ todo → pre.find? (fun d => decide (nI d.1 = x)) = none → k_X (jX11_findDirectory G l h) h 2 [(0, vR (some a)), (1, vI x), (2, vI (nI pre.length))] [] (q_r (fun h' v => h' = h ∧ v = (D.find? (fun d => decide (nI d.1 = x))).map (fun d => da d.1))) := by
    intro todo
    induction todo with
    | nil =>
      intro pre hp hf
      rw [List.append_nil] at hp
      have hpl : D.length = pre.length := by rw [hp]
      refine bX11_findDirectory_2 o14 g5 (Or.inr ⟨rfl, _, _, b1⟩) (c_size ok b1) ?_
      rintro _ _ ⟨hh, rfl⟩
      rw [hh, List.length_map]
      refine bX11_findDirectory_10 (fun _ => bX11_findDirectory_41 ⟨_, rfl, rfl, ?_⟩) (fun c => absurd (nI_le (Nat.le_of_eq hpl) (by omega)) c)
      rw [hp, hf]; rfl
    | cons y todo ih =>
      intro pre hp hf
      have hlt : pre.length < D.length := by rw [hp, List.length_append, List.length_cons]; omega
      have hy : (D.map (fun x => da x.1))[pre.length]? = some (da y.1) := by rw [hp]; simp
      have hym : y ∈ D := by rw [hp]; simp
      refine bX11_findDirectory_2 o14 g5 (Or.inr ⟨rfl, _, _, b1⟩) (c_size ok b1) ?_
      rintro _ _ ⟨hh, rfl⟩
      rw [hh, List.length_map]
      refine bX11_findDirectory_10 (fun c => absurd c (nI_ge hlt (by omega))) (fun _ => ?_)
      refine bX11_findDirectory_13 o14 g5 (Or.inr ⟨rfl, _, _, b1⟩) (c_get ok b1 hy) ?_
      rintro _ _ ⟨hh, rfl⟩
      rw [hh]
      refine bX11_findDirectory_21 (b2 y hym) rfl (fun c => bX11_findDirectory_35 ?_) (fun c => bX11_findDirectory_33 ⟨_, rfl, rfl, ?_⟩)
      · rw [nI_1]
        have := ih (pre ++ [y]) (by rw [hp]; simp) (by rw [List.find?_append, hf]; simp [c])
        rw [List.length_append, List.length_singleton] at this
        exact this
      · rw [hp, List.find?_append, hf, Option.none_or, List.find?_cons_of_pos (by simp [c])]
        rfl
  exact key D [] rfl rfl
theorem c_dirAt (ok : k_ok G l) {a : Nat} {h : k_H} {fs : List k_V} {D : List s_D × Nat} {da : Nat → Nat} {x : Int32} (o14 : h.1 a = some (k_o 14 fs)) (g5 : fs[5]? = some (vR (some (a + 13)))) (dp : c_dp a h D.1 da) (hd : d_ok D) (hx : d_is D x = true) :
    ∃ d ∈ D.1, x = nI d.1 ∧ t_of x = d.1 ∧ D.1.find? (fun d => decide (nI d.1 = x)) = some d ∧ k_ctr (tX11_directoryAt G l) [vR (some a), vI x] h (fun h' v => h' = h ∧ v = some (da d.1)) := by
  rw [d_is_find] at hx
  obtain ⟨d, hf⟩ := Option.isSome_iff_exists.mp hx
  have hm := List.mem_of_find?_eq_some hf
  have he : nI d.1 = x := by have := List.find?_some hf; simpa using this
  obtain ⟨w, h1, h2, h3⟩ := hd
  have hlt := h2 d hm
  refine ⟨d, hm, he.symm, ?_, hf, ?_⟩
  · rw [← he]; unfold t_of; rw [nI_toInt (by omega)]; omega
  refine k_ctr_of (eX11_directoryAt ok.2 (bX11_directoryAt_0 (k_is_o o14) (c_findDir ok o14 g5 dp (by omega)) ?_))
  rintro _ _ ⟨hh, rfl⟩
  rw [hh, hf]
  exact bX11_directoryAt_5 (fun e => by cases e) (fun a' _ => bX11_directoryAt_21 ⟨_, rfl, rfl, rfl⟩)
theorem c_dirAtX (ok : k_ok G l) {a : Nat} {h : k_H} {fs : List k_V} {D : List s_D × Nat} {da : Nat → Nat} {x : Int32} (o14 : h.1 a = some (k_o 14 fs)) (g5 : fs[5]? = some (vR (some (a + 13)))) (dp : c_dp a h D.1 da) (hd : d_ok D) (hx : d_is D x = false) :
    k_ctx (tX11_directoryAt G l) [vR (some a), vI x] h x_IO (fun h' => h' = k_sk h 1 6) := by
  rw [d_is_find] at hx
  obtain ⟨w, h1, h2, h3⟩ := hd
  have hf : D.1.find? (fun d => decide (nI d.1 = x)) = none := by
    cases hg : D.1.find? (fun d => decide (nI d.1 = x)) with
    | none => rfl
    | some d => rw [hg] at hx; cases hx
  refine k_ctx_of (eX11_directoryAt ok.2 (bX11_directoryAt_0 (k_is_o o14) (c_findDir ok o14 g5 dp (by omega)) ?_))
  rintro _ _ ⟨hh, rfl⟩
  rw [hh, hf]
  exact bX11_directoryAt_5 (fun _ => bX11_directoryAt_10 ⟨rfl, rfl⟩) (fun a' e => by cases e)
theorem c_childOf (ok : k_ok G l) {a p : Nat} {h : k_H} {fs : List k_V} {D : List s_D × Nat} {da : Nat → Nat} {nm : Int32} (o14 : h.1 a = some (k_o 14 fs)) (g5 : fs[5]? = some (vR (some (a + 13)))) (dp : c_dp a h D.1 da) (hd : d_ok D) (hp : ∃ e ∈ D.1, e.1 = p) :
    k_ctr (tX11_childOf G l) [vR (some a), vR (some (da p)), vI nm] h (fun h' v => h' = h ∧ v = (d_ch D.1 p nm).map (fun d => da d.1)) := by
  obtain ⟨⟨cap, b1⟩, b2, b3⟩ := dp
  obtain ⟨w, h1, h2, h3⟩ := hd
  have ptr : ∀ y ∈ D.1, (y.2.1.map da = some (da p) ↔ y.2.1 = some p) := fun y hy => by
    constructor
    · intro e
      cases hq : y.2.1 with
      | none => rw [hq] at e; cases e
      | some q =>
        rw [hq] at e
        have e2 : da q = da p := by simpa using e
        obtain ⟨u, hu, rfl⟩ := d_par w hy hq
        obtain ⟨v, hv, rfl⟩ := hp
        rw [b3 u hu v hv e2]
    · intro e; rw [e]; rfl
  refine k_ctr_of (eX11_childOf ok.2 (bX11_childOf_0 ?_))
  have key : ∀ (todo pre : List s_D), D.1 = pre ++ todo → d_ch pre p nm = none → k_X (jX11_childOf G l h) h 2 [(0, vR (some a)), (1, vR (some (da p))), (2, vI nm), (3, vI (nI pre.length))] [] (q_r (fun h' v => h' = h ∧ v = (d_ch D.1 p nm).map (fun d => da d.1))) := by
    intro todo
    induction todo with
    | nil =>
      intro pre hpp hf
      rw [List.append_nil] at hpp
      have hpl : D.1.length = pre.length := by rw [hpp]
      refine bX11_childOf_2 o14 g5 (Or.inr ⟨rfl, _, _, b1⟩) (c_size ok b1) ?_
      rintro _ _ ⟨hh, rfl⟩
      rw [hh, List.length_map]
      refine bX11_childOf_10 (fun _ => bX11_childOf_53 ⟨_, rfl, rfl, ?_⟩) (fun c => absurd (nI_le (Nat.le_of_eq hpl) (by omega)) c)
      rw [hpp, hf]; rfl
    | cons y todo ih =>
      intro pre hpp hf
      have hlt : pre.length < D.1.length := by rw [hpp, List.length_append, List.length_cons]; omega
      have hy : (D.1.map (fun x => da x.1))[pre.length]? = some (da y.1) := by rw [hpp]; simp
      have hym : y ∈ D.1 := by rw [hpp]; simp
      refine bX11_childOf_2 o14 g5 (Or.inr ⟨rfl, _, _, b1⟩) (c_size ok b1) ?_
      rintro _ _ ⟨hh, rfl⟩
      rw [hh, List.length_map]
      refine bX11_childOf_10 (fun c => absurd c (nI_ge hlt (by omega))) (fun _ => ?_)
      refine bX11_childOf_13 o14 g5 (Or.inr ⟨rfl, _, _, b1⟩) (c_get ok b1 hy) ?_
      rintro _ _ ⟨hh, rfl⟩
      rw [hh]
      have next : (decide (y.2.1 = some p) && decide (nI y.2.2.1 = nm)) = false → k_X (jX11_childOf G l h) h 47 [(0, vR (some a)), (1, vR (some (da p))), (2, vI nm), (3, vI (nI pre.length))] [] (q_r (fun h' v => h' = h ∧ v = (d_ch D.1 p nm).map (fun d => da d.1))) := fun hc => by
        refine bX11_childOf_47 ?_
        rw [nI_1]
        have hf2 : d_ch (pre ++ [y]) p nm = none := by
          unfold d_ch at hf ⊢
          rw [List.find?_append, hf, Option.none_or, List.find?_cons_of_neg (by rw [hc]; decide)]
          rfl
        have := ih (pre ++ [y]) (by rw [hpp]; simp) hf2
        rw [List.length_append, List.length_singleton] at this
        exact this
      refine bX11_childOf_21 (b2 y hym) rfl (fun c => next ?_) (fun c => ?_)
      · rw [decide_eq_false (fun z => c ((ptr y hym).mpr z)), Bool.false_and]
      · have c' := (ptr y hym).mp c
        refine bX11_childOf_35 (b2 y hym) rfl (fun c2 => next ?_) (fun c2 => bX11_childOf_44 ⟨_, rfl, rfl, ?_⟩)
        · rw [decide_eq_false c2, Bool.and_false]
        · unfold d_ch at hf ⊢
          rw [hpp, List.find?_append, hf, Option.none_or, List.find?_cons_of_pos (by rw [decide_eq_true c', decide_eq_true c2]; rfl)]
          rfl
  exact key D.1 [] rfl rfl
theorem c_isWithin2 (ok : k_ok G l) {o : Nat} {h : k_H} {D : List s_D × Nat} {da : Nat → Nat} (b2 : ∀ x ∈ D.1, h.1 (da x.1) = some (k_o 5 [vI (nI x.1), vI (nI x.2.2.2), vR (x.2.1.map da), vI (nI x.2.2.1)])) (b3 : ∀ x ∈ D.1, ∀ y ∈ D.1, da x.1 = da y.1 → x.1 = y.1) (hd : d_ok D) (ho : ∃ e ∈ D.1, e.1 = o) {d0 : s_D} (hd0 : d0 ∈ D.1) :
    k_cti (tX11_isWithin G l) [vR (some (da d0.1)), vR (some (da o))] h (fun h' v => h' = h ∧ v = kB (d_bel D.1 d0.1 o)) := by
  obtain ⟨w, h1, h2, h3⟩ := hd
  obtain ⟨rk, hrk⟩ := w.2.2.2.1
  refine k_cti_of (eX11_isWithin ok.2 (bX11_isWithin_0 ?_))
  have key : ∀ (n : Nat) (d : s_D), d ∈ D.1 → rk d.1 ≤ n → d_bel D.1 d0.1 o = d_bel D.1 d.1 o → k_X (jX11_isWithin G l h) h 2 [(1, vR (some (da o))), (2, vR (some (da d.1)))] [] (q_i (fun h' v => h' = h ∧ v = kB (d_bel D.1 d0.1 o))) := by
    intro n
    induction n with
    | zero =>
      intro d hm hr hb
      refine bX11_isWithin_2 (fun e => by cases e) (fun _ _ => bX11_isWithin_6 (fun c => ?_) (fun c => ?_))
      · have hne : ¬ d.1 = o := fun z => c (by rw [z])
        refine bX11_isWithin_13 (b2 d hm) rfl ?_
        cases hq : d.2.1 with
        | none =>
          refine bX11_isWithin_2 (fun _ => bX11_isWithin_21 ⟨_, rfl, rfl, ?_⟩) (fun a e => by cases e)
          rw [hb, d_bel_none hne (by rw [d_pa_of w.1 hm]; exact hq)]; rfl
        | some p =>
          have := hrk d hm p hq
          omega
      · obtain ⟨e, he, rfl⟩ := ho
        have : d.1 = e.1 := b3 d hm e he (by simpa using c)
        refine bX11_isWithin_11 ⟨_, rfl, rfl, ?_⟩
        rw [hb, this, d_bel_self]; rfl
    | succ n ih =>
      intro d hm hr hb
      refine bX11_isWithin_2 (fun e => by cases e) (fun _ _ => bX11_isWithin_6 (fun c => ?_) (fun c => ?_))
      · have hne : ¬ d.1 = o := fun z => c (by rw [z])
        refine bX11_isWithin_13 (b2 d hm) rfl ?_
        cases hq : d.2.1 with
        | none =>
          refine bX11_isWithin_2 (fun _ => bX11_isWithin_21 ⟨_, rfl, rfl, ?_⟩) (fun a e => by cases e)
          rw [hb, d_bel_none hne (by rw [d_pa_of w.1 hm]; exact hq)]; rfl
        | some p =>
          have h9 := hrk d hm p hq
          obtain ⟨e, he, rfl⟩ := d_par w hm hq
          exact ih e he (by omega) (by rw [hb, d_bel_some hne (by rw [d_pa_of w.1 hm]; exact hq)])
      · obtain ⟨e, he, rfl⟩ := ho
        have : d.1 = e.1 := b3 d hm e he (by simpa using c)
        refine bX11_isWithin_11 ⟨_, rfl, rfl, ?_⟩
        rw [hb, this, d_bel_self]; rfl
  exact key (rk d0.1) d0 hd0 (Nat.le_refl _) rfl
theorem c_isWithin (ok : k_ok G l) {a o : Nat} {h : k_H} {D : List s_D × Nat} {da : Nat → Nat} (dp : c_dp a h D.1 da) (hd : d_ok D) (ho : ∃ e ∈ D.1, e.1 = o) {d0 : s_D} (hd0 : d0 ∈ D.1) :
    k_cti (tX11_isWithin G l) [vR (some (da d0.1)), vR (some (da o))] h (fun h' v => h' = h ∧ v = kB (d_bel D.1 d0.1 o)) := c_isWithin2 ok dp.2.1 dp.2.2 hd ho hd0
theorem C_shortName (ok : k_ok G l) {a N w : Nat} {B : Nat × Nat} {h : k_H} {M : s_M} {x : Int32} (W : c_W a B h M N w) (hd : d_ok (g_DS M)) : k_ct (tX11_shortName G l) [vR (some a), vI x] h (c_R a B (F_shortName M x) x_I (N + 1) w) := by
  obtain ⟨o14, -⟩ := W_ob W
  obtain ⟨da, dp⟩ := W_dp W
  refine eX11_shortName ok.2 ?_
  cases hx : d_is (g_DS M) x with
  | false =>
    refine bX11_shortName_0x (k_is_o o14) (c_dirAtX ok o14 rfl dp hd hx) ?_
    rintro _ rfl
    exact R_x (k := 1) (X := x_I) W (by unfold F_shortName; rw [if_pos hx]) (by decide)
  | true =>
    obtain ⟨d, hm, he, ht, hf, hc⟩ := c_dirAt ok o14 rfl dp hd hx
    refine bX11_shortName_0 (k_is_o o14) hc ?_
    rintro _ _ ⟨hh, rfl⟩
    rw [hh]
    refine bX11_shortName_5 (dp.2.1 d hm) rfl (R_ok (W_le W (Nat.le_succ _)) ?_)
    unfold F_shortName d_sh
    rw [if_neg (by rw [hx]; decide), hf]
theorem C_named (ok : k_ok G l) {a N w : Nat} {B : Nat × Nat} {h : k_H} {M : s_M} {x nm : Int32} (W : c_W a B h M N w) (hd : d_ok (g_DS M)) : k_ct (tX11_named G l) [vR (some a), vI x, vI nm] h (c_R a B (F_named M x nm) x_3 (N + 1) w) := by
  obtain ⟨o14, -⟩ := W_ob W
  obtain ⟨da, dp⟩ := W_dp W
  refine eX11_named ok.2 ?_
  cases hx : d_is (g_DS M) x with
  | false =>
    refine bX11_named_0x (k_is_o o14) (c_dirAtX ok o14 rfl dp hd hx) ?_
    rintro _ rfl
    exact R_x (k := 1) (X := x_3) W (by unfold F_named; rw [if_pos hx]) (by decide)
  | true =>
    obtain ⟨d, hm, he, ht, hf, hc⟩ := c_dirAt ok o14 rfl dp hd hx
    refine bX11_named_0 (k_is_o o14) hc ?_
    rintro _ _ ⟨hh, rfl⟩
    rw [hh]
    cases hn : s_inB nm 0 9 with
    | false =>
      refine bX11_named_5x (x_X11_requireName ok (in9_not hn)) ?_
      rintro _ rfl
      exact R_x (k := 2) (X := x_3) W (by unfold F_named; rw [if_neg (by rw [hx]; decide), if_pos hn]) (by decide)
    | true =>
      refine bX11_named_5 (c_X11_requireName ok (in9 hn)) ?_
      rintro _ hh
      rw [hh]
      have hF : F_named M x nm = (M, 0, match d_ch (g_DS M).1 d.1 nm with | some d => nI d.1 | none => -2147483648) := by
        unfold F_named
        rw [if_neg (by rw [hx]; decide), if_neg (by rw [hn]; decide), he, d_nm_ch hd ⟨d, hm, rfl⟩]
      refine bX11_named_10 (k_is_o o14) (c_childOf ok o14 rfl dp hd ⟨d, hm, rfl⟩) ?_
      rintro _ _ ⟨hh, rfl⟩
      rw [hh]
      cases hch : d_ch (g_DS M).1 d.1 nm with
      | none =>
        rw [hch] at hF
        exact bX11_named_16 (fun _ => bX11_named_23 (bX11_named_33 (R_ok (W_le W (Nat.le_succ _)) hF))) (fun a' e => by cases e)
      | some c =>
        rw [hch] at hF
        refine bX11_named_16 (fun e => by cases e) (fun a' _ => bX11_named_28 (dp.2.1 c (d_ch_mem hch)) rfl (bX11_named_33 (R_ok (W_le W (Nat.le_succ _)) hF)))
end CDI
end
section
/-! THE CLASS MAKES AND MOVES DIRECTORIES -/
theorem d_len {D : List s_D × Nat} (w : d_wf D) : D.1.length = d_many D.1 + 1 := by
  have h1 := d_ge_1 w
  have h2 : d_ge D.1 0 = D.1 := by
    unfold d_ge
    rw [List.filter_eq_self]
    intro d _
    simp
  have h3 := d_ge_take w.1 w.2.1
  rw [show ((0, none, 0, 0) : s_D).1 = 0 from rfl, h2, Nat.zero_add, h1] at h3
  have := congrArg List.length h3
  rw [List.length_cons, ← List.countP_eq_length_filter] at this
  exact this
theorem el_dir {h : k_H} {a : Nat} {fs : List k_V} (ho : h.1 a = some (k_o 5 fs)) : k_el h a := ⟨5, k_is_o ho, k_to rfl (by decide)⟩
theorem d_used_root {D : List s_D × Nat} (w : d_wf D) {n : Nat} (h : 0 < n) : d_used D.1 n = D.1.any (fun d => decide (d.2.2.2 = n)) := by
  unfold d_used
  rw [Bool.eq_iff_iff, List.any_eq_true, List.any_eq_true]
  constructor
  · rintro ⟨d, hd, hc⟩
    rw [Bool.and_eq_true] at hc
    exact ⟨d, hd, hc.2⟩
  · rintro ⟨d, hd, hc⟩
    refine ⟨d, hd, ?_⟩
    rw [hc, Bool.and_true]
    by_cases h0 : d.1 = 0
    · rw [d_root w hd h0] at hc
      simp at hc
      omega
    · simp [h0]
section CD2
variable {G : k_G} {l : Launch}
theorem c_hasShort (ok : k_ok G l) {a n : Nat} {h : k_H} {fs : List k_V} {D : List s_D × Nat} {da : Nat → Nat} (o14 : h.1 a = some (k_o 14 fs)) (g5 : fs[5]? = some (vR (some (a + 13)))) (dp : c_dp a h D.1 da) (hd : d_ok D) (hn : 0 < n ∧ n < 100) :
    k_cti (tX11_hasShortName G l) [vR (some a), vI (nI n)] h (fun h' v => h' = h ∧ v = kB (d_used D.1 n)) := by
  obtain ⟨⟨cap, b1⟩, b2, b3⟩ := dp
  obtain ⟨w, h1, h2, h3⟩ := hd
  rw [d_used_root w hn.1]
  refine k_cti_of (eX11_hasShortName ok.2 (bX11_hasShortName_0 ?_))
  have key : ∀ (todo pre : List s_D), D.1 = pre ++ todo → pre.any (fun d => decide (d.2.2.2 = n)) = false → k_X (jX11_hasShortName G l h) h 2 [(0, vR (some a)), (1, vI (nI n)), (2, vI (nI pre.length))] [] (q_i (fun h' v => h' = h ∧ v = kB (D.1.any (fun d => decide (d.2.2.2 = n))))) := by
    intro todo
    induction todo with
    | nil =>
      intro pre hp hf
      rw [List.append_nil] at hp
      have hpl : D.1.length = pre.length := by rw [hp]
      refine bX11_hasShortName_2 o14 g5 (Or.inr ⟨rfl, _, _, b1⟩) (c_size ok b1) ?_
      rintro _ _ ⟨hh, rfl⟩
      rw [hh, List.length_map]
      refine bX11_hasShortName_10 (fun _ => bX11_hasShortName_39 ⟨_, rfl, rfl, ?_⟩) (fun c => absurd (nI_le (Nat.le_of_eq hpl) (by omega)) c)
      rw [hp, hf]; rfl
    | cons y todo ih =>
      intro pre hp hf
      have hlt : pre.length < D.1.length := by rw [hp, List.length_append, List.length_cons]; omega
      have hy : (D.1.map (fun x => da x.1))[pre.length]? = some (da y.1) := by rw [hp]; simp
      have hym : y ∈ D.1 := by rw [hp]; simp
      have hy9 := (w.2.2.2.2 y hym).2
      refine bX11_hasShortName_2 o14 g5 (Or.inr ⟨rfl, _, _, b1⟩) (c_size ok b1) ?_
      rintro _ _ ⟨hh, rfl⟩
      rw [hh, List.length_map]
      refine bX11_hasShortName_10 (fun c => absurd c (nI_ge hlt (by omega))) (fun _ => ?_)
      refine bX11_hasShortName_13 o14 g5 (Or.inr ⟨rfl, _, _, b1⟩) (c_get ok b1 hy) ?_
      rintro _ _ ⟨hh, rfl⟩
      rw [hh]
      refine bX11_hasShortName_21 (b2 y hym) rfl (fun c => bX11_hasShortName_33 ?_) (fun c => bX11_hasShortName_31 ⟨_, rfl, rfl, ?_⟩)
      · rw [nI_1]
        have hne : ¬ y.2.2.2 = n := fun z => c (by rw [z])
        have := ih (pre ++ [y]) (by rw [hp]; simp) (by rw [List.any_append, hf]; simp [hne])
        rw [List.length_append, List.length_singleton] at this
        exact this
      · have c' := (nI_eq (by omega) (by omega)).mp c
        have : D.1.any (fun d => decide (d.2.2.2 = n)) = true := by
          rw [List.any_eq_true]
          exact ⟨y, hym, decide_eq_true c'⟩
        rw [this]; rfl
  exact key D.1 [] rfl rfl
theorem c_freeShort (ok : k_ok G l) {a : Nat} {h : k_H} {fs : List k_V} {D : List s_D × Nat} {da : Nat → Nat} (o14 : h.1 a = some (k_o 14 fs)) (g5 : fs[5]? = some (vR (some (a + 13)))) (dp : c_dp a h D.1 da) (hd : d_ok D) (hf : d_free D.1 12 1 ≤ 9) (hfk : d_fok D.1) :
    k_cti (tX11_freeShortName G l) [vR (some a)] h (fun h' v => h' = h ∧ v = nI (d_free D.1 12 1)) := by
  refine k_cti_of (eX11_freeShortName ok.2 (bX11_freeShortName_0 ?_))
  have key : ∀ (d n k : Nat), 9 - n = d → 0 < n → n ≤ 9 → 12 ≤ k + n → d_free D.1 12 1 = d_free D.1 k n → k_X (jX11_freeShortName G l h) h 2 [(0, vR (some a)), (1, vI (nI n))] [] (q_i (fun h' v => h' = h ∧ v = nI (d_free D.1 12 1))) := by
    intro d
    induction d with
    | zero =>
      intro n k hdn h0 h9 hk he
      have en : n = 9 := by omega
      subst en
      refine bX11_freeShortName_2 (fun c => absurd c (by decide)) (fun _ => bX11_freeShortName_8 (k_is_o o14) (c_hasShort ok o14 g5 dp hd ⟨by omega, by omega⟩) ?_)
      rintro _ _ ⟨hh, rfl⟩
      rw [hh]
      cases hu : d_used D.1 9 with
      | false =>
        refine bX11_freeShortName_13 (fun c => absurd rfl c) (fun _ => bX11_freeShortName_16 ⟨_, rfl, rfl, ?_⟩)
        have : d_free D.1 k 9 = 9 := by
          cases k with
          | zero => rfl
          | succ k => unfold d_free; rw [hu, if_neg (by decide)]
        rw [he, this]
      | true =>
        exfalso
        obtain ⟨k, rfl⟩ : ∃ k', k = k' + 1 := ⟨k - 1, by omega⟩
        have ge : ∀ (k n : Nat), n ≤ d_free D.1 k n := by
          intro k
          induction k with
          | zero => exact fun n => Nat.le_refl _
          | succ k ih =>
            intro n
            unfold d_free
            split
            · exact Nat.le_trans (Nat.le_succ n) (ih _)
            · exact Nat.le_refl _
        have : d_free D.1 (k + 1) 9 = d_free D.1 k 10 := by
          show (if d_used D.1 9 = true then d_free D.1 k (9 + 1) else 9) = _
          rw [hu, if_pos rfl]
        have := ge k 10
        omega
    | succ d ih =>
      intro n k hdn h0 h9 hk he
      refine bX11_freeShortName_2 (fun c => absurd ((nI_ltI (a := 9) (by omega) (by omega)).mp c) (by omega)) (fun _ => bX11_freeShortName_8 (k_is_o o14) (c_hasShort ok o14 g5 dp hd ⟨h0, by omega⟩) ?_)
      rintro _ _ ⟨hh, rfl⟩
      rw [hh]
      obtain ⟨k, rfl⟩ : ∃ k', k = k' + 1 := ⟨k - 1, by omega⟩
      cases hu : d_used D.1 n with
      | false =>
        refine bX11_freeShortName_13 (fun c => absurd rfl c) (fun _ => bX11_freeShortName_16 ⟨_, rfl, rfl, ?_⟩)
        have : d_free D.1 (k + 1) n = n := by unfold d_free; rw [hu, if_neg (by decide)]
        rw [he, this]
      | true =>
        refine bX11_freeShortName_13 (fun _ => bX11_freeShortName_18 ?_) (fun c => absurd c (by decide))
        rw [nI_1]
        have : d_free D.1 (k + 1) n = d_free D.1 k (n + 1) := by
          show (if d_used D.1 n = true then d_free D.1 k (n + 1) else n) = _
          rw [hu, if_pos rfl]
        exact ih (n + 1) k (by omega) (by omega) (by omega) (by omega) (by rw [he, this])
  exact key 8 1 12 rfl (by omega) (by omega) (by omega) rfl
theorem C_directory (ok : k_ok G l) {a N w : Nat} {B : Nat × Nat} {h : k_H} {M : s_M} {x nm : Int32} (W : c_W a B h M N w) (hd : d_ok (g_DS M)) (hlim : (g_DS M).2 < 1024) (hmany : d_many (g_DS M).1 ≤ 9) (hf : d_many (g_DS M).1 < 9 → d_free (g_DS M).1 12 1 ≤ 9 ∧ d_fok (g_DS M).1) : k_ct (tX11_directory G l) [vR (some a), vI x, vI nm] h (c_R a B (F_directory M x nm) x_3 (N + 1) w) := by
  obtain ⟨o14, -⟩ := W_ob W
  obtain ⟨da, dp⟩ := W_dp W
  refine eX11_directory ok.2 ?_
  cases hx : d_is (g_DS M) x with
  | false =>
    refine bX11_directory_0x (k_is_o o14) (c_dirAtX ok o14 rfl dp hd hx) ?_
    rintro _ rfl
    exact R_x (k := 1) (X := x_3) W (by unfold F_directory; rw [if_pos hx]) (by decide)
  | true =>
    obtain ⟨d, hm, he, ht, hfd, hc⟩ := c_dirAt ok o14 rfl dp hd hx
    refine bX11_directory_0 (k_is_o o14) hc ?_
    rintro _ _ ⟨hh, rfl⟩
    rw [hh]
    cases hn : s_inB nm 0 9 with
    | false =>
      refine bX11_directory_5x (x_X11_requireName ok (in9_not hn)) ?_
      rintro _ rfl
      exact R_x (k := 2) (X := x_3) W (by unfold F_directory; rw [if_neg (by rw [hx]; decide), if_pos hn]) (by decide)
    | true =>
      refine bX11_directory_5 (c_X11_requireName ok (in9 hn)) ?_
      rintro _ hh
      rw [hh]
      obtain ⟨w9, h91, h92, h93⟩ := id hd
      have hnmc := d_nm_ch hd ⟨d, hm, rfl⟩ nm
      have hlen := d_len w9
      have bad : (¬ d_nm (g_DS M).1 x nm = -2147483648 ∨ d_many (g_DS M).1 = 9) → k_X (jX11_directory G l h) h 31 [] [] (c_R a B (F_directory M x nm) x_3 (N + 1) w) := fun hc =>
        bX11_directory_31 (R_x (k := 3) (X := x_3) W (by unfold F_directory; rw [if_neg (by rw [hx]; decide), if_neg (by rw [hn]; decide), if_pos hc]) (by decide))
      refine bX11_directory_10 (k_is_o o14) (c_childOf ok o14 rfl dp hd ⟨d, hm, rfl⟩) ?_
      rintro _ _ ⟨hh, rfl⟩
      rw [hh]
      cases hch : d_ch (g_DS M).1 d.1 nm with
      | some c =>
        refine bX11_directory_16 (fun e => by cases e) (fun a' _ => bad (Or.inl ?_))
        rw [he, hnmc, hch]
        have := h92 c (d_ch_mem hch)
        exact wk_ne (by omega)
      | none =>
        have hnone : d_nm (g_DS M).1 x nm = -2147483648 := by rw [he, hnmc, hch]
        obtain ⟨⟨cap, b1⟩, b2, b3⟩ := id dp
        refine bX11_directory_16 (fun _ => bX11_directory_19 o14 rfl (Or.inr ⟨rfl, _, _, b1⟩) (c_size ok b1) ?_) (fun a' e => by cases e)
        rintro _ _ ⟨hh, rfl⟩
        rw [hh, List.length_map]
        refine bX11_directory_26 (fun c1 => ?_) (fun c1 => bad (Or.inr ?_))
        · have c1' : (g_DS M).1.length ≤ 9 := (nI_leI (b := 9) (by omega) (by omega)).mp c1
          obtain ⟨hf1, hf2⟩ := hf (by omega)
          obtain ⟨hnm1, hnm2⟩ := s_inN (m := 9) (by decide) hn
          have hF : F_directory M x nm = (g_dset M ((g_DS M).1 ++ [((g_DS M).2, some d.1, nm.toInt.toNat, d_free (g_DS M).1 12 1)], (g_DS M).2 + 1), 0, nI (g_DS M).2) := by
            unfold F_directory
            rw [if_neg (by rw [hx]; decide), if_neg (by rw [hn]; decide), if_neg (fun z => by rcases z with z | z; exact z hnone; omega), ht]
            rfl
          obtain ⟨Q, S, PS, s, r, p, co⟩ := id W
          obtain ⟨r1, r2, r3, r4, r5, r6, r7⟩ := id r
          have h0lt := h92 _ w9.2.1
          have hD2 : 0 < (g_DS M).2 := Nat.lt_of_le_of_lt (Nat.zero_le _) h0lt
          have efld : nI ((g_DS M).2 - 1) + 1 = nI (g_DS M).2 := by rw [nI_1, Nat.sub_add_cancel hD2]
          refine bX11_directory_41 o14 rfl rfl ?_
          rw [efld]
          have m1 : k_mo a [] (fun q => q = a ∨ q = a + 13) 0 h (k_up h a (k_o 14 (([vR (some (a + 1)), vR (some (a + 6)), vR (some (a + 10)), vR (some (a + 11)), vR (some (a + 12)), vR (some (a + 13)), vR (some (a + 14)), vR (some (a + 15)), vI (nI (g_MK M).length), vI (nI (g_gen M)), vI (nI (g_los M)), vI (g_why M), vI (nI ((g_DS M).2 - 1))] : List k_V).set 12 (vI (nI (g_DS M).2))))) := mv_o o14 (Or.inr (Or.inl rfl))
          have o1 : (k_up h a (k_o 14 (([vR (some (a + 1)), vR (some (a + 6)), vR (some (a + 10)), vR (some (a + 11)), vR (some (a + 12)), vR (some (a + 13)), vR (some (a + 14)), vR (some (a + 15)), vI (nI (g_MK M).length), vI (nI (g_gen M)), vI (nI (g_los M)), vI (g_why M), vI (nI ((g_DS M).2 - 1))] : List k_V).set 12 (vI (nI (g_DS M).2))))).1 a = some (k_o 14 [vR (some (a + 1)), vR (some (a + 6)), vR (some (a + 10)), vR (some (a + 11)), vR (some (a + 12)), vR (some (a + 13)), vR (some (a + 14)), vR (some (a + 15)), vI (nI (g_MK M).length), vI (nI (g_gen M)), vI (nI (g_los M)), vI (g_why M), vI (nI (g_DS M).2)]) := k_up_self _ _ _
          obtain ⟨hwf, ha31⟩ : k_wf h ∧ a + 31 ≤ h.2.1 := by
            obtain ⟨CXf, -, -, x3, x4⟩ := r1
            exact ⟨x4, x3⟩
          have hnew : ∀ y ∈ (g_DS M).1, da y.1 ≠ h.2.1 := fun y hy z => by
            have := hwf _ _ (b2 y hy)
            omega
          have eaddr : (k_up h a (k_o 14 (([vR (some (a + 1)), vR (some (a + 6)), vR (some (a + 10)), vR (some (a + 11)), vR (some (a + 12)), vR (some (a + 13)), vR (some (a + 14)), vR (some (a + 15)), vI (nI (g_MK M).length), vI (nI (g_gen M)), vI (nI (g_los M)), vI (g_why M), vI (nI ((g_DS M).2 - 1))] : List k_V).set 12 (vI (nI (g_DS M).2))))).2.1 = h.2.1 := rfl
          generalize hg1 : k_up h a _ = h1 at m1 o1 eaddr
          have wf1 := m1.2.1 hwf
          refine bX11_directory_51 o1 rfl ?_
          rw [eaddr]
          generalize hq : h.2.1 = q at hnew eaddr ha31
          have o2 : (k_nw h1 4 (k_o 5 [vI 0, vI 0, vR none, vI 0])).1 a = some (k_o 14 [vR (some (a + 1)), vR (some (a + 6)), vR (some (a + 10)), vR (some (a + 11)), vR (some (a + 12)), vR (some (a + 13)), vR (some (a + 14)), vR (some (a + 15)), vI (nI (g_MK M).length), vI (nI (g_gen M)), vI (nI (g_los M)), vI (g_why M), vI (nI (g_DS M).2)]) := nw_old wf1 o1
          have m2 : k_mo a [] (fun _ => False) 1 h1 (k_nw h1 4 (k_o 5 [vI 0, vI 0, vR none, vI 0])) := mv_nw wf1 (by omega) (by omega)
          have nO : ∀ p ci fs, h.1 p = some (k_o ci fs) → ci ≠ 14 → ¬ (p = a ∨ p = a + 13) := fun p ci fs hp hc z => by
            rcases z with z | z
            · rw [z, o14] at hp; cases hp; exact hc rfl
            · rw [z, b1] at hp; cases hp
          have dpl : ∃ cap, h1.1 (a + 13) = some (k_l ((g_DS M).1.map (fun x => da x.1)) cap) := ⟨cap, by rw [← hg1, k_up_ne _ _ (by omega)]; exact b1⟩
          have dp1 : c_dp a h1 (g_DS M).1 da := ⟨dpl, fun y hy => m1.1 _ _ (b2 y hy) (nO _ _ _ (b2 y hy) (by decide)) (fun _ _ _ => List.not_mem_nil), b3⟩
          have dp2 : c_dp a (k_nw h1 4 (k_o 5 [vI 0, vI 0, vR none, vI 0])) (g_DS M).1 da := dp_fr dp1 m2.1 (by simp) id (fun _ _ _ z => z)
          refine bX11_directory_58 o2 rfl (c_freeShort ok o2 rfl dp2 hd hf1 hf2) ?_
          rintro _ _ ⟨hh, rfl⟩
          rw [hh]
          have oq : (k_nw h1 4 (k_o 5 [vI 0, vI 0, vR none, vI 0])).1 q = some (k_o 5 [vI 0, vI 0, vR none, vI 0]) := by rw [← eaddr]; exact k_nw_self _ _ _
          refine bX11_directory_69 (c_X2_init ok oq) ?_
          rintro h3 hh3
          have hh3' : h3 = k_nw h1 4 (k_o 5 [vI (nI (g_DS M).2), vI (nI (d_free (g_DS M).1 12 1)), vR (some (da d.1)), vI nm]) := by
            rw [hh3, ← eaddr]
            exact up_nw _ _ _ _
          have m3 : k_mo a [] (fun _ => False) 1 h1 h3 := by rw [hh3']; exact mv_nw wf1 (by omega) (by omega)
          have o3 := m3.1 _ _ o1 id (fun _ _ _ => List.not_mem_nil)
          have oq3 : h3.1 q = some (k_o 5 [vI (nI (g_DS M).2), vI (nI (d_free (g_DS M).1 12 1)), vR (some (da d.1)), vI nm]) := by rw [hh3', ← eaddr]; exact k_nw_self _ _ _
          have dp3 := dp_fr dp1 m3.1 (by simp) id (fun _ _ _ z => z)
          obtain ⟨⟨cap3, e3⟩, e32, -⟩ := id dp3
          have wf3 := m3.2.1 wf1
          have hadd := c_add ok wf3 e3 (by rw [List.length_map]; omega) (fun z hz => by
            obtain ⟨y, hy, rfl⟩ := List.mem_map.mp hz
            exact el_dir (e32 y hy)) (el_dir oq3)
          refine bX11_directory_72 (Or.inr ⟨rfl, _, _, e3⟩) hadd ?_
          rintro h4 _ ⟨hh4, -⟩
          rw [List.length_map] at hh4
          have m4 : k_mo a [] (fun q => q = a + 13) 0 h3 h4 := by rw [hh4]; exact mv_gr e3 (by omega) rfl (by show _ ≤ 30; omega)
          obtain ⟨cap4, e4⟩ := gr_at h3 (a + 13) ((g_DS M).1.map (fun x => da x.1) ++ [q]) (g_DS M).1.length cap3
          rw [← hh4] at e4
          have m : k_mo a [] (fun q => q = a ∨ q = a + 13) 1 h h4 := mv_mono (mv_trans (mv_trans m1 (mv_mono m3 (fun _ h => h) (fun _ z => z.elim) (Nat.le_refl _))) (mv_mono m4 (fun _ h => h) (fun _ z => Or.inr z) (Nat.le_refl _))) (fun _ h => h) (fun _ h => h) (Nat.le_refl _)
          have o4 : h4.1 a = some (k_o 14 [vR (some (a + 1)), vR (some (a + 6)), vR (some (a + 10)), vR (some (a + 11)), vR (some (a + 12)), vR (some (a + 13)), vR (some (a + 14)), vR (some (a + 15)), vI (nI (g_MK M).length), vI (nI (g_gen M)), vI (nI (g_los M)), vI (g_why M), vI (nI (g_DS M).2)]) := m4.1 _ _ o3 (by omega) (fun _ _ _ => List.not_mem_nil)
          have old : ∀ p ci fs, h.1 p = some (k_o ci fs) → ci ≠ 14 → h4.1 p = some (k_o ci fs) := fun p ci fs hp hc => m.1 _ _ hp (nO p ci fs hp hc) (fun _ _ _ => List.not_mem_nil)
          have dda : ∀ y ∈ (g_DS M).1, (fun k => if k = (g_DS M).2 then q else da k) y.1 = da y.1 := fun y hy => by
            have := h92 y hy
            show (if y.1 = (g_DS M).2 then q else da y.1) = _
            rw [if_neg (by omega)]
          have hDS : g_DS (g_dset M ((g_DS M).1 ++ [((g_DS M).2, some d.1, nm.toInt.toNat, d_free (g_DS M).1 12 1)], (g_DS M).2 + 1)) = ((g_DS M).1 ++ [((g_DS M).2, some d.1, nm.toInt.toNat, d_free (g_DS M).1 12 1)], (g_DS M).2 + 1) := rfl
          have q4 : c_rs a h4 (g_dset M ((g_DS M).1 ++ [((g_DS M).2, some d.1, nm.toInt.toNat, d_free (g_DS M).1 12 1)], (g_DS M).2 + 1)) Q w PS := by
            refine ⟨TX_fr r1 m (by simp) (fun q ci fs hq hc => nO q ci fs hq (by rcases hc with e | e <;> rw [e] <;> decide)) (fun i h1 h2 z => by omega), pa_fr r2 m (by simp) ⟨by omega, by omega⟩ (fun q fs hq => nO q 8 fs hq (by decide)), ?_, cl_fr r4 m.1 (by simp) ⟨by omega, by omega, by omega⟩, mk_fr r5 m.1 (by omega), ?_, wa_fr r7 m.1 (by simp) (by omega) (fun q fs hq => nO q 13 fs hq (by decide))⟩
            · unfold c_ob
              rw [hDS]
              exact o4
            · rw [hDS]
              refine ⟨fun k => if k = (g_DS M).2 then q else da k, cap4, ?_, fun y hy => ?_, fun y hy z hz e => ?_⟩
              · rw [e4]
                show _ = some (k_l (((g_DS M).1 ++ [((g_DS M).2, some d.1, nm.toInt.toNat, d_free (g_DS M).1 12 1)]).map _) cap4)
                rw [List.map_append, List.map_congr_left dda]
                show some (k_l (_ ++ [q]) cap4) = some (k_l (_ ++ [if (g_DS M).2 = (g_DS M).2 then q else _]) cap4)
                rw [if_pos rfl]
              · rcases List.mem_append.mp hy with hy | hy
                · rw [dda y hy]
                  have hpp : y.2.1.map (fun k => if k = (g_DS M).2 then q else da k) = y.2.1.map da := by
                    cases hq2 : y.2.1 with
                    | none => rfl
                    | some u =>
                      obtain ⟨v, hv, rfl⟩ := d_par w9 hy hq2
                      exact congrArg some (dda v hv)
                  rw [hpp]
                  exact old _ _ _ (b2 y hy) (by decide)
                · rw [List.mem_singleton.mp hy]
                  show h4.1 (if (g_DS M).2 = (g_DS M).2 then q else _) = _
                  rw [if_pos rfl]
                  have e9 : nI nm.toInt.toNat = nm := hnm1.symm
                  have e8 : Option.map (fun k => if k = (g_DS M).2 then q else da k) (some d.1) = some (da d.1) := congrArg some (dda d hm)
                  show h4.1 q = some (k_o 5 [vI (nI (g_DS M).2), vI (nI (d_free (g_DS M).1 12 1)), vR (Option.map (fun k => if k = (g_DS M).2 then q else da k) (some d.1)), vI (nI nm.toInt.toNat)])
                  rw [e8, e9]
                  exact m4.1 _ _ oq3 (fun z => by rw [z, e3] at oq3; cases oq3) (fun _ _ _ => List.not_mem_nil)
              · rcases List.mem_append.mp hy with hy | hy <;> rcases List.mem_append.mp hz with hz | hz
                · rw [dda y hy, dda z hz] at e
                  exact b3 y hy z hz e
                · rw [List.mem_singleton.mp hz] at e ⊢
                  rw [dda y hy] at e
                  have e : da y.1 = if (g_DS M).2 = (g_DS M).2 then q else _ := e
                  rw [if_pos rfl] at e
                  exact absurd e (hnew y hy)
                · rw [List.mem_singleton.mp hy] at e ⊢
                  rw [dda z hz] at e
                  have e : (if (g_DS M).2 = (g_DS M).2 then q else _) = da z.1 := e
                  rw [if_pos rfl] at e
                  exact absurd e.symm (hnew z hz)
                · rw [List.mem_singleton.mp hy, List.mem_singleton.mp hz]
          have s4 := sE_fr s m (by simp) (fun i h1 h2 z => by omega) (fun q ci fs hq hc => nO q ci fs hq (by rcases hc with e | e | e <;> rw [e] <;> decide))
          have W4 : c_W a B h4 (g_dset M ((g_DS M).1 ++ [((g_DS M).2, some d.1, nm.toInt.toNat, d_free (g_DS M).1 12 1)], (g_DS M).2 + 1)) (N + 1) w := ⟨Q, S, PS, s4, q4, p, co_le (co_mo co m) (by omega)⟩
          exact bX11_directory_75 o4 rfl (R_ok W4 hF)
        · have : ¬ (g_DS M).1.length ≤ 9 := fun z => c1 ((nI_leI (b := 9) (by omega) (by omega)).mpr z)
          omega
end CD2
end
section
/-! THE CLASS MOVES AND REMOVES DIRECTORIES -/
theorem R_xv {a N w k : Nat} {B : Nat × Nat} {h : k_H} {M : s_M} {R : s_M × Nat × Int32} {X : Nat → String} (W : c_W a B h M N w) (hF : R = (M, k, 0)) (hk : k ≠ 0) : c_Rv a B R X (N + 1) w (k_sk h 1 6) (.inr (X k)) := by
  rw [hF]
  refine ⟨W_sk W, ?_⟩
  show _ = if k = 0 then _ else _
  rw [if_neg hk]
theorem rm_hi_eq {x : s_D} (h : x.2.2.2 ≤ 9) : rm_hi x + 1 = s_hi (nI x.2.2.2) 10000 ∧ rm_lo x = s_lo (nI x.2.2.2) 10000 := by
  refine ⟨?_, rfl⟩
  have hne : ¬ nI x.2.2.2 = 10000 := fun z => by
    have := (nI_eq (a := x.2.2.2) (b := 10000) (by omega) (by omega)).mp z
    omega
  unfold rm_hi s_la s_hi
  rw [if_neg hne, if_neg hne, if_pos rfl]
  omega
theorem era_mid {A : Type} (y : A) (r : List A) : ∀ l : List A, (l ++ y :: r).eraseIdx l.length = l ++ r := by
  intro l
  induction l with
  | nil => rfl
  | cons x l ih =>
    show x :: (l ++ y :: r).eraseIdx l.length = x :: (l ++ r)
    rw [ih]
/-- the directories' list changes -/
theorem W_dset {a N w : Nat} {B : Nat × Nat} {h h' : k_H} {M : s_M} {D : List s_D × Nat} {ys : List Nat} {cap : Nat} (W : c_W a B h M N w) (e : h.1 (a + 13) = some (k_l ys cap)) (m : k_mo a [] (fun q => q = a + 13) 0 h h') (d : c_dr a h' D.1) (h2 : D.2 = (g_DS M).2) : c_W a B h' (g_dset M D) N w := by
  obtain ⟨Q, S, PS, s, r, p, co⟩ := W
  obtain ⟨r1, r2, r3, r4, r5, r6, r7⟩ := r
  have nO : ∀ p ci fs, h.1 p = some (k_o ci fs) → ¬ (p = a + 13) := fun p ci fs hp z => by rw [z, e] at hp; cases hp
  have s4 := sE_fr s m (by simp) (fun i h1 h2 z => by omega) (fun q ci fs hq hc => nO q ci fs hq)
  refine ⟨Q, S, PS, s4, ⟨TX_fr r1 m (by simp) (fun q ci fs hq hc => nO q ci fs hq) (fun i h1 h2 z => by omega), pa_fr r2 m (by simp) ⟨by omega, by omega⟩ (fun q fs hq => nO q 8 fs hq), ?_, cl_fr r4 m.1 (by simp) ⟨by omega, by omega, by omega⟩, mk_fr r5 m.1 (by omega), d, wa_fr r7 m.1 (by simp) (by omega) (fun q fs hq => nO q 13 fs hq)⟩, p, co_le (co_mo co m) (Nat.le_refl _)⟩
  have o := ob_fr r3 m.1 (by simp) (show ¬ a = a + 13 by omega)
  have e9 : g_DS (g_dset M D) = D := rfl
  unfold c_ob at o ⊢
  rw [e9, h2]
  exact o
section CRM
variable {G : k_G} {l : Launch}
theorem C_move (ok : k_ok G l) {a N w : Nat} {B : Nat × Nat} {h : k_H} {M : s_M} {x y nm : Int32} (W : c_W a B h M N w) (hd : d_ok (g_DS M)) : k_ct (tX11_move G l) [vR (some a), vI x, vI y, vI nm] h (c_Rv a B (F_move M x y nm) x_3 (N + 1) w) := by
  obtain ⟨o14, -⟩ := W_ob W
  obtain ⟨da, dp⟩ := W_dp W
  refine eX11_move ok.2 ?_
  cases hx : d_is (g_DS M) x with
  | false =>
    refine bX11_move_0x (k_is_o o14) (c_dirAtX ok o14 rfl dp hd hx) ?_
    rintro _ rfl
    exact R_xv (k := 1) (X := x_3) W (by unfold F_move; rw [hx, Bool.false_and, if_pos rfl]) (by decide)
  | true =>
    obtain ⟨d, hm, he, ht, hf, hc⟩ := c_dirAt ok o14 rfl dp hd hx
    refine bX11_move_0 (k_is_o o14) hc ?_
    rintro _ _ ⟨hh, rfl⟩
    rw [hh]
    cases hy : d_is (g_DS M) y with
    | false =>
      refine bX11_move_5x (k_is_o o14) (c_dirAtX ok o14 rfl dp hd hy) ?_
      rintro _ rfl
      exact R_xv (k := 1) (X := x_3) W (by unfold F_move; rw [hy, Bool.and_false, if_pos rfl]) (by decide)
    | true =>
      obtain ⟨e, em, ee, et, ef, ec⟩ := c_dirAt ok o14 rfl dp hd hy
      refine bX11_move_5 (k_is_o o14) ec ?_
      rintro _ _ ⟨hh, rfl⟩
      rw [hh]
      have hxy : ¬ (d_is (g_DS M) x && d_is (g_DS M) y) = false := by rw [hx, hy]; decide
      cases hn : s_inB nm 0 9 with
      | false =>
        refine bX11_move_12x (x_X11_requireName ok (in9_not hn)) ?_
        rintro _ rfl
        exact R_xv (k := 2) (X := x_3) W (by unfold F_move; rw [if_neg hxy, if_pos hn]) (by decide)
      | true =>
        refine bX11_move_12 (c_X11_requireName ok (in9 hn)) ?_
        rintro _ hh
        rw [hh]
        obtain ⟨w9, h91, h92, h93⟩ := id hd
        have hdl := h92 d hm
        obtain ⟨⟨cap, b1⟩, b2, b3⟩ := id dp
        have F0 : ∀ c, (mv_can (g_DS M) x y nm && (decide (d_nm (g_DS M).1 y nm = -2147483648) || decide (d_nm (g_DS M).1 y nm = x))) = c → F_move M x y nm = if c = true then (g_dset M (d_mv (g_DS M).1 d.1 e.1 (t_of nm), (g_DS M).2), 0, 0) else (M, 3, 0) := fun c hc => by
          unfold F_move
          rw [if_neg hxy, if_neg (by rw [hn]; decide), hc, ht, et]
        have can : mv_can (g_DS M) x y nm = (decide (¬ d.1 = 0) && !(d_bel (g_DS M).1 e.1 d.1)) := by
          unfold mv_can
          rw [hx, hy, hn, ht, et]
          have : (decide (¬ x ≤ 0)) = decide (¬ d.1 = 0) := by
            rw [he]
            refine decide_eq_decide.mpr ?_
            have hz : nI d.1 ≤ 0 ↔ d.1 ≤ 0 := nI_leI (a := d.1) (b := 0) (by omega) (by omega)
            rw [hz]
            omega
          rw [this]
          rfl
        have bad36 : mv_can (g_DS M) x y nm = false → k_X (jX11_move G l h) h 36 [] [] (c_Rv a B (F_move M x y nm) x_3 (N + 1) w) := fun hc =>
          bX11_move_36 (R_xv (k := 3) (X := x_3) W (by rw [F0 false (by rw [hc]; rfl), if_neg (by decide)]) (by decide))
        refine bX11_move_18 (b2 d hm) rfl (fun c0 => bad36 ?_) (fun c0 => ?_)
        · have : d.1 = 0 := (nI_eq (a := d.1) (b := 0) (by omega) (by omega)).mp c0
          rw [can, decide_eq_false (show ¬ ¬ d.1 = 0 from fun z => z this), Bool.false_and]
        have hd0 : ¬ d.1 = 0 := fun z => c0 (by rw [z]; rfl)
        refine bX11_move_26 (c_isWithin ok dp hd ⟨d, hm, rfl⟩ em) ?_
        rintro _ _ ⟨hh, rfl⟩
        rw [hh]
        refine bX11_move_33 (fun c1 => ?_) (fun c1 => bad36 ?_)
        · rw [kB_0] at c1
          have can2 : mv_can (g_DS M) x y nm = true := by rw [can, c1, decide_eq_true hd0]; rfl
          have hnmc := d_nm_ch hd ⟨e, em, rfl⟩ nm
          obtain ⟨hnm1, hnm2⟩ := s_inN (m := 9) (by decide) hn
          -- the move itself
          have go : (decide (d_nm (g_DS M).1 y nm = -2147483648) || decide (d_nm (g_DS M).1 y nm = x)) = true → k_X (jX11_move G l h) h 79 [(3, vI nm), (4, vR (some (da d.1))), (5, vR (some (da e.1)))] [] (c_Rv a B (F_move M x y nm) x_3 (N + 1) w) := fun hg => by
            rw [F0 true (by rw [can2, hg]; rfl), if_pos rfl]
            refine bX11_move_79 (b2 d hm) rfl ?_
            refine bX11_move_86 (k_up_self _ _ _) rfl ?_
            rw [k_uu]
            generalize hg1 : k_up h (da d.1) _ = h1
            have m : k_mo a [5] (fun _ => False) 0 h h1 := by rw [← hg1]; exact mv_o (b2 d hm) (Or.inl (by simp))
            obtain ⟨Q, S, PS, s, r, p, co⟩ := W
            obtain ⟨r1, r2, r3, r4, r5, r6, r7⟩ := r
            have s1 := sE_fr s m (by decide) (fun _ _ _ z => z) (fun _ _ _ _ _ z => z)
            have hDS : g_DS (g_dset M (d_mv (g_DS M).1 d.1 e.1 (t_of nm), (g_DS M).2)) = (d_mv (g_DS M).1 d.1 e.1 (t_of nm), (g_DS M).2) := rfl
            have mk1 : ∀ z : s_D, (if z.1 = d.1 then ((z.1, some e.1, t_of nm, z.2.2.2) : s_D) else z).1 = z.1 := fun z => by split <;> rfl
            have emem : ∀ z ∈ d_mv (g_DS M).1 d.1 e.1 (t_of nm), ∃ u ∈ (g_DS M).1, z = (if u.1 = d.1 then ((u.1, some e.1, t_of nm, u.2.2.2) : s_D) else u) ∧ z.1 = u.1 := fun z hz => by
              obtain ⟨u, hu, rfl⟩ := List.mem_map.mp hz
              exact ⟨u, hu, rfl, mk1 u⟩
            have q1 : c_rs a h1 (g_dset M (d_mv (g_DS M).1 d.1 e.1 (t_of nm), (g_DS M).2)) Q w PS := by
              refine ⟨TX_fr r1 m (by decide) (fun _ _ _ _ _ z => z) (fun _ _ _ z => z), pa_fr r2 m (by decide) ⟨id, id⟩ (fun _ _ _ z => z), ?_, cl_fr r4 m.1 (by decide) ⟨id, id, id⟩, mk_fr r5 m.1 id, ?_, wa_fr r7 m.1 (by decide) id (fun _ _ _ z => z)⟩
              · have o := ob_fr r3 m.1 (by decide) id
                unfold c_ob at o ⊢
                rw [hDS]
                exact o
              · rw [hDS]
                refine ⟨da, cap, ?_, fun z hz => ?_, fun z hz v hv ev => ?_⟩
                · have e13 := m.1 _ _ b1 id (fun ci fs e => by cases e)
                  rw [e13]
                  show _ = some (k_l ((d_mv (g_DS M).1 d.1 e.1 (t_of nm)).map (fun x => da x.1)) cap)
                  unfold d_mv
                  rw [List.map_map]
                  congr 2
                  refine List.map_congr_left fun u _ => ?_
                  show da u.1 = da (if u.1 = d.1 then ((u.1, some e.1, t_of nm, u.2.2.2) : s_D) else u).1
                  rw [mk1]
                · obtain ⟨u, hu, ez, e1⟩ := emem z hz
                  rw [e1]
                  by_cases eu : u.1 = d.1
                  · have euv := d_uniq w9.1 hu hm eu
                    subst euv
                    rw [if_pos rfl] at ez
                    rw [ez, ← hg1, k_up_self]
                    have e9 : nI (t_of nm) = nm := hnm1.symm
                    show some (k_o 5 [vI (nI u.1), vI (nI u.2.2.2), vR (some (da e.1)), vI nm]) = some (k_o 5 [vI (nI u.1), vI (nI u.2.2.2), vR (some (da e.1)), vI (nI (t_of nm))])
                    rw [e9]
                  · rw [if_neg eu] at ez
                    rw [ez, ← hg1, k_up_ne _ _ (fun z => eu (b3 u hu d hm z))]
                    exact b2 u hu
                · obtain ⟨u, hu, ez, e1⟩ := emem z hz
                  obtain ⟨u2, hu2, ez2, e2⟩ := emem v hv
                  rw [e1, e2] at ev ⊢
                  exact b3 u hu u2 hu2 ev
            exact bX11_move_92 ⟨⟨Q, S, PS, s1, q1, p, co_le (co_mo co m) (by omega)⟩, rfl⟩
          refine bX11_move_47 (k_is_o o14) (c_childOf ok o14 rfl dp hd ⟨e, em, rfl⟩) ?_
          rintro _ _ ⟨hh, rfl⟩
          rw [hh]
          rw [← ee] at hnmc
          cases hch : d_ch (g_DS M).1 e.1 nm with
          | none =>
            rw [hch] at hnmc
            refine bX11_move_54 (fun _ => go ?_) (fun a' z => by cases z)
            rw [hnmc]; rfl
          | some c =>
            rw [hch] at hnmc
            have hnmc2 : d_nm (g_DS M).1 y nm = nI c.1 := hnmc
            have hcm := d_ch_mem hch
            have hcl := h92 c hcm
            refine bX11_move_54 (fun z => by cases z) (fun a' _ => bX11_move_61 (fun c2 => go ?_) (fun c2 => bX11_move_68 (R_xv (k := 3) (X := x_3) W ?_ (by decide))))
            · have : c.1 = d.1 := b3 c hcm d hm (by simpa using c2)
              rw [hnmc2, this, ← he, decide_eq_true rfl, Bool.or_true]
            · have hne : ¬ c.1 = d.1 := fun z => c2 (congrArg (fun q => some (da q)) z)
              rw [F0 false, if_neg (by decide)]
              rw [hnmc2, decide_eq_false (wk_ne (by omega)), he, decide_eq_false (fun z => hne ((nI_eq (by omega) (by omega)).mp z)), Bool.or_false, Bool.and_false]
        · rw [kB_n0] at c1
          rw [can, c1, Bool.not_true, Bool.and_false]
end CRM
end
section
/-! THE CLASS REMOVES DIRECTORIES -/
section CR2
variable {G : k_G} {l : Launch}
theorem c_dirLow (ok : k_ok G l) {q : Nat} {h : k_H} {x : s_D} {p : k_V} {nm : k_V} (o : h.1 q = some (k_o 5 [vI (nI x.1), vI (nI x.2.2.2), p, nm])) (h9 : x.2.2.2 ≤ 9) : k_ctj (tX2_low G l) [vR (some q)] h (fun h' v => h' = h ∧ v = lN (s_lo (nI x.2.2.2) 10000)) := by
  refine k_ctj_of (eX2_low ok.2 (bX2_low_0 o rfl (c_X11_lowOf ok (na_100 (by omega)) na_m6.2.2.2.2.2.2.2) ?_))
  rintro _ _ ⟨hh, rfl⟩
  rw [hh]
  exact bX2_low_10 ⟨_, rfl, rfl, rfl⟩
theorem c_dirHigh (ok : k_ok G l) {q : Nat} {h : k_H} {x : s_D} {p : k_V} {nm : k_V} (o : h.1 q = some (k_o 5 [vI (nI x.1), vI (nI x.2.2.2), p, nm])) (h9 : x.2.2.2 ≤ 9) : k_ctj (tX2_high G l) [vR (some q)] h (fun h' v => h' = h ∧ v = lN (s_hi (nI x.2.2.2) 10000)) := by
  refine k_ctj_of (eX2_high ok.2 (bX2_high_0 o rfl (c_X11_highOf ok (na_100 (by omega)) na_m6.2.2.2.2.2.2.2) ?_))
  rintro _ _ ⟨hh, rfl⟩
  rw [hh]
  exact bX2_high_10 ⟨_, rfl, rfl, rfl⟩
theorem W_listM (ok : k_ok G l) {a N w lo hi : Nat} {B : Nat × Nat} {h : k_H} {M : s_M} (W : c_W a B h M N w) (hlo : lo < 2 ^ 62) (hhi : hi < 2 ^ 62) (hlim : e_lim (g_E M)) : k_ctr (tX8_listHeld G l) [vR (some (a + 1)), vJ (lN lo), vJ (lN hi)] h (fun h' v => v = some (a + 4) ∧ c_W a B h' M N w ∧ (∃ (X : List Nat) (cap : Nat), h'.1 (a + 4) = some (k_l X cap) ∧ X.length = (r_flt lo hi (fun c => (r_val c (g_n M) (g_E M).2.1).isSome) (g_E M).1).length) ∧ k_mo a [] (fun q => q = a + 4) 0 h h' ∧ ∀ q fs, h.1 q = some (k_o 5 fs) → ¬ (q = a + 4)) := by
  obtain ⟨Q, S, PS, s, r, p, co⟩ := W
  obtain ⟨KS, L, WS, z', st, -⟩ := id s
  obtain ⟨cK, cW, cH, xs, ka, ⟨-, -, -, s4', -⟩, -⟩ := id st
  obtain ⟨h', v, t, e, s', ⟨X, cap, x1, x2, x3⟩, m⟩ := c_E_listHeldP ok s hlo hhi hlim
  refine ⟨h', v, t, e, ⟨Q, S, PS, s', rs_sto r s (mv_mono m (fun _ h => by cases h) (fun p h => Or.inr (Or.inr (Or.inl h))) (Nat.le_refl _)), p, co_le (co_mo co m) (Nat.le_refl _)⟩, ⟨_, cap, x1, ?_⟩, m, fun q fs hq z => by rw [z, s4'] at hq; cases hq⟩
  have := congrArg List.length x2
  rw [List.length_map, List.length_map] at this
  rw [List.length_map, this]
  rfl
theorem c_heldWithin (ok : k_ok G l) {a N w o : Nat} {B : Nat × Nat} {h : k_H} {M : s_M} {da : Nat → Nat} (W : c_W a B h M N w) (dp : c_dp a h (g_DS M).1 da) (hd : d_ok (g_DS M)) (ho : ∃ e ∈ (g_DS M).1, e.1 = o) (hlim : e_lim (g_E M)) :
    k_cti (tX11_heldWithin G l) [vR (some a), vR (some (da o))] h (fun h' v => c_W a B h' M N w ∧ c_dp a h' (g_DS M).1 da ∧ v = nI (rm_many M o)) := by
  obtain ⟨w9, h91, h92, h93⟩ := id hd
  refine k_cti_of (eX11_heldWithin ok.2 (bX11_heldWithin_0 ?_))
  have key : ∀ (todo pre : List s_D) (hh : k_H), (g_DS M).1 = pre ++ todo → c_W a B hh M N w → c_dp a hh (g_DS M).1 da → k_X (jX11_heldWithin G l h) hh 4 [(0, vR (some a)), (1, vR (some (da o))), (2, vI (nI (((pre.filter (fun x => d_bel (g_DS M).1 x.1 o)).map (rm_cnt M)).sum))), (3, vI (nI pre.length))] [] (q_i (fun h' v => c_W a B h' M N w ∧ c_dp a h' (g_DS M).1 da ∧ v = nI (rm_many M o))) := by
    intro todo
    induction todo with
    | nil =>
      intro pre hh hp W1 dp1
      obtain ⟨o14, -⟩ := W_ob W1
      obtain ⟨⟨cap, b1⟩, b2, b3⟩ := id dp1
      rw [List.append_nil] at hp
      have hpl : (g_DS M).1.length = pre.length := by rw [hp]
      refine bX11_heldWithin_4 o14 rfl (Or.inr ⟨rfl, _, _, b1⟩) (c_size ok b1) ?_
      rintro _ _ ⟨hh2, rfl⟩
      rw [hh2, List.length_map]
      refine bX11_heldWithin_12 (fun _ => bX11_heldWithin_66 ⟨_, rfl, W1, dp1, ?_⟩) (fun c => absurd (nI_le (Nat.le_of_eq hpl) (by omega)) c)
      unfold rm_many rm_gone
      rw [hp]
    | cons y todo ih =>
      intro pre hh hp W1 dp1
      obtain ⟨o14, f0, f1, f2, f3, f4, f5, o11⟩ := W_ob W1
      obtain ⟨⟨cap, b1⟩, b2, b3⟩ := id dp1
      have hlt : pre.length < (g_DS M).1.length := by rw [hp, List.length_append, List.length_cons]; omega
      have hy : ((g_DS M).1.map (fun x => da x.1))[pre.length]? = some (da y.1) := by rw [hp]; simp
      have hym : y ∈ (g_DS M).1 := by rw [hp]; simp
      have hy9 := (w9.2.2.2.2 y hym).2
      refine bX11_heldWithin_4 o14 rfl (Or.inr ⟨rfl, _, _, b1⟩) (c_size ok b1) ?_
      rintro _ _ ⟨hh2, rfl⟩
      rw [hh2, List.length_map]
      refine bX11_heldWithin_12 (fun c => absurd c (nI_ge hlt (by omega))) (fun _ => ?_)
      refine bX11_heldWithin_15 o14 rfl (Or.inr ⟨rfl, _, _, b1⟩) (c_get ok b1 hy) ?_
      rintro _ _ ⟨hh2, rfl⟩
      rw [hh2]
      refine bX11_heldWithin_23 (b2 y hym) (c_isWithin ok dp1 hd ho hym) ?_
      rintro _ _ ⟨hh2, rfl⟩
      rw [hh2]
      refine bX11_heldWithin_34 (fun c => ?_) (fun c => ?_)
      · rw [kB_0] at c
        refine bX11_heldWithin_60 ?_
        rw [nI_1]
        have := ih (pre ++ [y]) hh (by rw [hp]; simp) W1 dp1
        rw [List.length_append, List.length_singleton, List.filter_append, List.filter_cons_of_neg (by rw [c]; decide), List.filter_nil, List.append_nil] at this
        exact this
      · rw [kB_n0] at c
        have hna : s_na (nI y.2.2.2) := na_100 (by omega)
        obtain ⟨hl1, hl2, hl3, hl4⟩ := s_hi_la hna na_m6.2.2.2.2.2.2.2
        obtain ⟨e1, e2⟩ := rm_hi_eq hy9
        refine bX11_heldWithin_37 o14 rfl (k_is_o (b2 y hym)) (c_dirLow ok (b2 y hym) hy9) ?_
        rintro _ _ ⟨hh2, rfl⟩
        rw [hh2]
        refine bX11_heldWithin_47 (k_is_o (b2 y hym)) (c_dirHigh ok (b2 y hym) hy9) ?_
        rintro _ _ ⟨hh2, rfl⟩
        rw [hh2]
        refine bX11_heldWithin_52 (k_is_o o11) (W_listM ok W1 (by omega) (by omega) hlim) ?_
        rintro h3 _ ⟨rfl, W3, ⟨X, capX, x1, x2⟩, m3, n5⟩
        have dp3 := dp_fr dp1 m3.1 (by simp) (by omega) n5
        refine bX11_heldWithin_55 (Or.inr ⟨rfl, _, _, x1⟩) (c_size ok x1) ?_
        rintro _ _ ⟨hh3, rfl⟩
        rw [hh3, x2]
        refine bX11_heldWithin_58 (bX11_heldWithin_60 ?_)
        rw [nI_1, nI_add]
        have ec : (r_flt (s_lo (nI y.2.2.2) 10000) (s_hi (nI y.2.2.2) 10000) (fun c => (r_val c (g_n M) (g_E M).2.1).isSome) (g_E M).1).length = rm_cnt M y := by
          unfold rm_cnt
          rw [e1, e2]
        rw [ec]
        have := ih (pre ++ [y]) h3 (by rw [hp]; simp) W3 dp3
        rw [List.length_append, List.length_singleton, List.filter_append, List.filter_cons_of_pos (by rw [c]), List.filter_nil, List.map_append, List.sum_append, List.map_cons, List.map_nil, List.sum_cons, List.sum_nil, Nat.add_zero] at this
        exact this
  have := key (g_DS M).1 [] h rfl W dp
  exact this
theorem c_wipeWithin (ok : k_ok G l) {a N w o : Nat} {B : Nat × Nat} {h : k_H} {M : s_M} {da : Nat → Nat} (W : c_W a B h M N w) (dp : c_dp a h (g_DS M).1 da) (hd : d_ok (g_DS M)) (ho : ∃ e ∈ (g_DS M).1, e.1 = o) (hn : g_n M + 1 < 9000) (hlim : e_lim (rm_E M o)) (hpk : g_pk M) (h0 : g_p0 M) (hps : g_ps M (rm_E M o)) :
    k_ctv (tX11_wipeWithin G l) [vR (some a), vR (some (da o))] h (fun h' => c_W a B h' (g_cm M (rm_E M o)) (N + g_sp M (rm_E M o)) w ∧ c_dp a h' (g_DS M).1 da) := by
  obtain ⟨w9, h91, h92, h93⟩ := id hd
  obtain ⟨o14, f0, f1, f2, f3, f4, f5, o11⟩ := W_ob W
  refine k_ctv_of (eX11_wipeWithin ok.2 (bX11_wipeWithin_0 o14 rfl (k_is_o o11) (O_openM ok W (by omega)) ?_))
  rintro h1 ⟨O1, m1⟩
  have dp1 := dp_fr dp m1.1 (by decide) id (fun _ _ _ z => z)
  refine bX11_wipeWithin_8 ?_
  have key : ∀ (todo pre : List s_D) (hh : k_H) (E : e_S), (g_DS M).1 = pre ++ todo → ((todo.filter (fun x => d_bel (g_DS M).1 x.1 o)).foldl (fun E x => e_clr (g_n M + 1) (rm_lo x) (rm_hi x + 1) E) E) = rm_E M o → e_ex (g_n M) (g_E M) E → c_O a B hh M E N w → c_dp a hh (g_DS M).1 da → k_X (jX11_wipeWithin G l h) hh 10 [(0, vR (some a)), (1, vR (some (da o))), (2, vI (nI pre.length))] [] (q_v (fun h' => c_W a B h' (g_cm M (rm_E M o)) (N + g_sp M (rm_E M o)) w ∧ c_dp a h' (g_DS M).1 da)) := by
    intro todo
    induction todo with
    | nil =>
      intro pre hh E hp hE hex O2 dp2
      obtain ⟨o14, -⟩ := O_ob O2
      obtain ⟨⟨cap, b1⟩, b2, b3⟩ := id dp2
      rw [List.append_nil] at hp
      have hpl : (g_DS M).1.length = pre.length := by rw [hp]
      have hE : E = rm_E M o := hE
      rw [hE] at O2 hex
      refine bX11_wipeWithin_10 o14 rfl (Or.inr ⟨rfl, _, _, b1⟩) (c_size ok b1) ?_
      rintro _ _ ⟨hh2, rfl⟩
      rw [hh2, List.length_map]
      refine bX11_wipeWithin_18 (fun _ => ?_) (fun c => absurd (nI_le (Nat.le_of_eq hpl) (by omega)) c)
      refine bX11_wipeWithin_62 (k_is_o o14) (O_closeM ok O2 hex hlim hpk h0 hps) ?_
      rintro h5 ⟨W5, m5⟩
      obtain ⟨Q, S, PS, s, r, p, co⟩ := O2
      obtain ⟨KS, L, WS, z', st, -⟩ := id s
      obtain ⟨cK, cW, cH, xs, ka, ⟨-, -, -, s4', -⟩, -⟩ := id st
      obtain ⟨-, ⟨cap7, p1, -⟩, -⟩ := id r.2.1
      refine bX11_wipeWithin_66 ⟨rfl, W5, dp_fr dp2 m5.1 (by decide) (by omega) (fun q fs hq z => ?_)⟩
      rcases z with z | z
      · rw [z, s4'] at hq; cases hq
      · rw [z, p1] at hq; cases hq
    | cons y todo ih =>
      intro pre hh E hp hE hex O2 dp2
      obtain ⟨o14, f0, f1, f2, f3, f4, f5, o11⟩ := O_ob O2
      obtain ⟨⟨cap, b1⟩, b2, b3⟩ := id dp2
      have hlt : pre.length < (g_DS M).1.length := by rw [hp, List.length_append, List.length_cons]; omega
      have hy : ((g_DS M).1.map (fun x => da x.1))[pre.length]? = some (da y.1) := by rw [hp]; simp
      have hym : y ∈ (g_DS M).1 := by rw [hp]; simp
      have hy9 := (w9.2.2.2.2 y hym).2
      refine bX11_wipeWithin_10 o14 rfl (Or.inr ⟨rfl, _, _, b1⟩) (c_size ok b1) ?_
      rintro _ _ ⟨hh2, rfl⟩
      rw [hh2, List.length_map]
      refine bX11_wipeWithin_18 (fun c => absurd c (nI_ge hlt (by omega))) (fun _ => ?_)
      refine bX11_wipeWithin_21 o14 rfl (Or.inr ⟨rfl, _, _, b1⟩) (c_get ok b1 hy) ?_
      rintro _ _ ⟨hh2, rfl⟩
      rw [hh2]
      refine bX11_wipeWithin_29 (b2 y hym) (c_isWithin ok dp2 hd ho hym) ?_
      rintro _ _ ⟨hh2, rfl⟩
      rw [hh2]
      refine bX11_wipeWithin_38 (fun c => ?_) (fun c => ?_)
      · rw [kB_0] at c
        rw [List.filter_cons_of_neg (by rw [c]; decide)] at hE
        refine bX11_wipeWithin_56 ?_
        rw [nI_1]
        have := ih (pre ++ [y]) hh E (by rw [hp]; simp) hE hex O2 dp2
        rw [List.length_append, List.length_singleton] at this
        exact this
      · rw [kB_n0] at c
        rw [List.filter_cons_of_pos (by rw [c]), List.foldl_cons] at hE
        have hna : s_na (nI y.2.2.2) := na_100 (by omega)
        obtain ⟨hl1, hl2, hl3, hl4⟩ := s_hi_la hna na_m6.2.2.2.2.2.2.2
        obtain ⟨e1, e2⟩ := rm_hi_eq hy9
        have le1 : e_lim (e_clr (g_n M + 1) (s_lo (nI y.2.2.2) 10000) (s_hi (nI y.2.2.2) 10000) E) := by
          rw [← hE] at hlim
          have := e_lim_le hlim (e_le_rm M _ _)
          rw [e1, e2] at this
          exact this
        refine bX11_wipeWithin_41 o14 rfl (k_is_o (b2 y hym)) (c_dirLow ok (b2 y hym) hy9) ?_
        rintro _ _ ⟨hh2, rfl⟩
        rw [hh2]
        refine bX11_wipeWithin_49 (k_is_o (b2 y hym)) (c_dirHigh ok (b2 y hym) hy9) ?_
        rintro _ _ ⟨hh2, rfl⟩
        rw [hh2]
        refine bX11_wipeWithin_53 (k_is_o o11) (O_wipeM ok O2 hl3 hl2 le1) ?_
        rintro h3 ⟨O3, o3, m3⟩
        have n5 : ∀ q fs, hh.1 q = some (k_o 5 fs) → ¬ c_A5 a q := fun q fs hq => by
          obtain ⟨Q, S, PS, s, -⟩ := O2
          exact sE_A5 s hq (by decide)
        have dp3 := dp_fr dp2 m3.1 (by decide) (fun z => by rcases z with z | z | z | z <;> omega) n5
        refine bX11_wipeWithin_56 ?_
        rw [nI_1]
        have hE' : e_clr (g_n M + 1) (rm_lo y) (rm_hi y + 1) E = e_clr (g_n M + 1) (s_lo (nI y.2.2.2) 10000) (s_hi (nI y.2.2.2) 10000) E := by rw [e1, e2]
        have := ih (pre ++ [y]) h3 _ (by rw [hp]; simp) hE (ex_trans hex (ex_clr _ _ _ _)) (by rw [hE']; exact O3) dp3
        rw [List.length_append, List.length_singleton] at this
        exact this
  exact key (g_DS M).1 [] h1 (g_E M) rfl rfl (ex_refl _ _) O1 dp1
theorem C_remove (ok : k_ok G l) {a N w k : Nat} {B : Nat × Nat} {h : k_H} {M : s_M} {x : Int32} (W : c_W a B h M N w) (hd : d_ok (g_DS M)) (hlim0 : e_lim (g_E M)) (hn : g_n M + 1 < 9000) (hpk : g_pk M) (h0 : g_p0 M) (hml : ∀ o, rm_many M o < 2 ^ 31) (hlim : ∀ o, ¬ o = 0 → 0 < rm_many M o → g_ps M (rm_E M o) ∧ e_lim (rm_E M o) ∧ g_sp M (rm_E M o) ≤ k) :
    k_ct (tX11_remove G l) [vR (some a), vI x] h (c_R a B (F_remove M x) x_I (N + 1 + k) w) := by
  obtain ⟨o14, -⟩ := W_ob W
  obtain ⟨da, dp⟩ := W_dp W
  refine eX11_remove ok.2 ?_
  cases hx : d_is (g_DS M) x with
  | false =>
    refine bX11_remove_0x (k_is_o o14) (c_dirAtX ok o14 rfl dp hd hx) ?_
    rintro _ rfl
    have hF : F_remove M x = (M, 1, 0) := by unfold F_remove; rw [if_pos hx]
    rw [hF]
    exact ⟨W_le (W_sk W) (by omega), rfl⟩
  | true =>
    obtain ⟨d, hm, he, ht, hf, hc⟩ := c_dirAt ok o14 rfl dp hd hx
    obtain ⟨w9, h91, h92, h93⟩ := id hd
    have hdl := h92 d hm
    have hd0 : x = 0 ↔ d.1 = 0 := by rw [he]; exact nI_eq (a := d.1) (b := 0) (by omega) (by omega)
    refine bX11_remove_0 (k_is_o o14) hc ?_
    rintro _ _ ⟨hh, rfl⟩
    rw [hh]
    refine bX11_remove_5 (dp.2.1 d hm) rfl (fun c0 => ?_) (fun c0 => ?_)
    · have c0' : ¬ d.1 = 0 := fun z => c0 (by rw [z]; rfl)
      have hF : F_remove M x = (g_dset (if 0 < rm_many M d.1 then g_cm M (rm_E M d.1) else M) (rm_D M d.1), 0, nI (rm_many M d.1)) := by
        unfold F_remove; rw [if_neg (by rw [hx]; decide), if_neg (fun z => c0' (hd0.mp z)), ht]
      refine bX11_remove_24 (k_is_o o14) (c_heldWithin ok W dp hd ⟨d, hm, rfl⟩ hlim0) ?_
      rintro h1 _ ⟨W1, dp1, rfl⟩
      -- taking them out of the list
      have tail : ∀ (h2 : k_H) (M2 : s_M) (N2 : Nat), c_W a B h2 M2 N2 w → N2 ≤ N + 1 + k → c_dp a h2 (g_DS M).1 da → g_DS M2 = g_DS M → F_remove M x = (g_dset M2 (rm_D M d.1), 0, nI (rm_many M d.1)) → k_X (jX11_remove G l h) h2 39 [(0, vR (some a)), (2, vR (some (da d.1))), (3, vI (nI (rm_many M d.1)))] [] (c_R a B (F_remove M x) x_I (N + 1 + k) w) := by
        intro h2 M2 N2 W2 hN dp2 hM2 hF2
        obtain ⟨o14, -⟩ := W_ob W2
        obtain ⟨⟨cap, b1⟩, b2, b3⟩ := id dp2
        refine bX11_remove_39 o14 rfl (Or.inr ⟨rfl, _, _, b1⟩) (c_size ok b1) ?_
        rintro _ _ ⟨hh2, rfl⟩
        rw [hh2, List.length_map]
        refine bX11_remove_46 ?_
        have key : ∀ (k0 : Nat) (pre suf : List s_D) (hh : k_H) (v : Int32), pre.length = k0 → v = nI k0 + (-1) → (g_DS M).1 = pre ++ suf → k_mo a [] (fun q => q = a + 13) 0 h2 hh → hh.1 (a + 13) = some (k_l ((pre ++ suf.filter (fun x => !(d_bel (g_DS M).1 x.1 d.1))).map (fun x => da x.1)) cap) →
            k_X (jX11_remove G l h) hh 50 [(0, vR (some a)), (2, vR (some (da d.1))), (3, vI (nI (rm_many M d.1))), (4, vI v)] [] (c_R a B (F_remove M x) x_I (N + 1 + k) w) := by
          intro k0
          induction k0 with
          | zero =>
            rintro pre suf hh v hk rfl hp m e13
            have hpre : pre = [] := List.length_eq_zero_iff.mp hk
            subst hpre
            have hp : (g_DS M).1 = suf := hp
            refine bX11_remove_50 (fun _ => bX11_remove_90 ?_) (fun c => absurd (by decide) c)
            rw [List.nil_append, ← hp] at e13
            have nO : ∀ p ci fs, h2.1 p = some (k_o ci fs) → ¬ (p = a + 13) := fun p ci fs hp z => by rw [z, b1] at hp; cases hp
            have W3 : c_W a B hh (g_dset M2 (rm_D M d.1)) N2 w := by
              refine W_dset W2 b1 m ⟨da, cap, e13, fun y hy => ?_, fun y hy z hz e => ?_⟩ (by rw [hM2]; rfl)
              · have hy2 := (List.mem_filter.mp hy).1
                exact m.1 _ _ (b2 y hy2) (nO _ _ _ (b2 y hy2)) (fun _ _ _ => List.not_mem_nil)
              · exact b3 y (List.mem_filter.mp hy).1 z (List.mem_filter.mp hz).1 e
            exact R_ok (W_le W3 hN) hF2
          | succ k0 ih =>
            rintro pre suf hh v hk rfl hp m e13
            rw [nI_m1 (by omega), Nat.add_sub_cancel]
            obtain ⟨pre', y, rfl⟩ : ∃ pre' y, pre = pre' ++ [y] := by
              rcases List.eq_nil_or_concat pre with e | ⟨l, y, e⟩
              · rw [e] at hk; cases hk
              · exact ⟨l, y, by rw [e, List.concat_eq_append]⟩
            have hk' : pre'.length = k0 := by rw [List.length_append, List.length_singleton] at hk; omega
            have hym : y ∈ (g_DS M).1 := by rw [hp]; simp
            have hkl : k0 < 2 ^ 31 := by
              have := congrArg List.length hp
              rw [List.length_append, List.length_append] at this
              omega
            have o14h : hh.1 a = h2.1 a := by
              have := m.1 _ _ o14 (by omega) (fun _ _ _ => List.not_mem_nil)
              rw [this, o14]
            have nO : ∀ p ci fs, h2.1 p = some (k_o ci fs) → ¬ (p = a + 13) := fun p ci fs hp z => by rw [z, b1] at hp; cases hp
            have b2h : ∀ x ∈ (g_DS M).1, hh.1 (da x.1) = some (k_o 5 [vI (nI x.1), vI (nI x.2.2.2), vR (x.2.1.map da), vI (nI x.2.2.1)]) := fun x hx => m.1 _ _ (b2 x hx) (nO _ _ _ (b2 x hx)) (fun _ _ _ => List.not_mem_nil)
            have e13' : hh.1 (a + 13) = some (k_l (pre'.map (fun x => da x.1) ++ da y.1 :: (suf.filter (fun x => !(d_bel (g_DS M).1 x.1 d.1))).map (fun x => da x.1)) cap) := by
              rw [e13, List.map_append, List.map_append, List.append_assoc]
              rfl
            have hg : (pre'.map (fun x => da x.1) ++ da y.1 :: (suf.filter (fun x => !(d_bel (g_DS M).1 x.1 d.1))).map (fun x => da x.1))[k0]? = some (da y.1) := by
              rw [← hk']
              have : pre'.length = (pre'.map (fun x => da x.1)).length := by rw [List.length_map]
              rw [this]
              simp
            refine bX11_remove_50 (fun c => absurd c (fun z => ?_)) (fun _ => ?_)
            · have := (nI_ltI (a := k0) (b := 0) hkl (by omega)).mp z
              omega
            refine bX11_remove_55 (o14h.trans o14) rfl (Or.inr ⟨rfl, _, _, e13'⟩) (c_get ok e13' hg) ?_
            rintro _ _ ⟨hh3, rfl⟩
            rw [hh3]
            refine bX11_remove_64 (b2h y hym) (c_isWithin2 ok b2h b3 hd ⟨d, hm, rfl⟩ hym) ?_
            rintro _ _ ⟨hh3, rfl⟩
            rw [hh3]
            have hp' : (g_DS M).1 = pre' ++ y :: suf := by rw [hp, List.append_assoc]; rfl
            refine bX11_remove_71 (fun c => ?_) (fun c => ?_)
            · rw [kB_0] at c
              refine bX11_remove_84 (ih pre' (y :: suf) hh _ hk' rfl hp' m ?_)
              rw [e13', List.filter_cons_of_pos (by rw [c]; rfl), List.map_append]
              rfl
            · rw [kB_n0] at c
              refine bX11_remove_74 (o14h.trans o14) rfl (Or.inr ⟨rfl, _, _, e13'⟩) (c_removeAt ok e13' hg (fun z hz => ?_)) ?_
              · have hz2 : ∃ u ∈ (g_DS M).1, z = da u.1 := by
                  rcases List.mem_append.mp hz with hz | hz
                  · obtain ⟨u, hu, rfl⟩ := List.mem_map.mp hz
                    exact ⟨u, by rw [hp']; exact List.mem_append_left _ hu, rfl⟩
                  · rcases List.mem_cons.mp hz with rfl | hz
                    · exact ⟨y, hym, rfl⟩
                    · obtain ⟨u, hu, rfl⟩ := List.mem_map.mp hz
                      exact ⟨u, by rw [hp']; exact List.mem_append_right _ (List.mem_cons_of_mem _ (List.mem_filter.mp hu).1), rfl⟩
                obtain ⟨u, hu, rfl⟩ := hz2
                exact el_dir (b2h u hu)
              rintro h3 _ ⟨hh3, -⟩
              have m3 : k_mo a [] (fun q => q = a + 13) 0 hh h3 := by rw [hh3]; exact mv_lu e13' (by omega) rfl
              refine bX11_remove_83 (bX11_remove_84 (ih pre' (y :: suf) h3 _ hk' rfl hp' (mv_mono (mv_trans m m3) (fun _ h => h) (fun _ h => h) (Nat.le_refl _)) ?_))
              have era : (pre'.map (fun x => da x.1) ++ da y.1 :: (suf.filter (fun x => !(d_bel (g_DS M).1 x.1 d.1))).map (fun x => da x.1)).eraseIdx k0 = pre'.map (fun x => da x.1) ++ (suf.filter (fun x => !(d_bel (g_DS M).1 x.1 d.1))).map (fun x => da x.1) := by
                rw [← hk']
                have : pre'.length = (pre'.map (fun x => da x.1)).length := by rw [List.length_map]
                rw [this]
                exact era_mid _ _ _
              rw [hh3, k_up_self, era, List.filter_cons_of_neg (by rw [c]; decide), List.map_append]
        refine key (g_DS M).1.length (g_DS M).1 [] h2 _ rfl (by rw [Int32.sub_eq_add_neg]) (List.append_nil _).symm (mv_refl _ _ _ _) ?_
        rw [b1, List.filter_nil, List.append_nil]
      refine bX11_remove_29 (fun c1 => ?_) (fun c1 => ?_)
      · have c1' : rm_many M d.1 ≤ 0 := (nI_leI (b := 0) (hml _) (by omega)).mp c1
        exact tail h1 M N W1 (by omega) dp1 rfl (by rw [hF, if_neg (by omega)])
      · have c1' : 0 < rm_many M d.1 := by
          by_cases e : rm_many M d.1 ≤ 0
          · exact absurd ((nI_leI (b := 0) (hml _) (by omega)).mpr e) c1
          · omega
        obtain ⟨g1, g2, g3⟩ := hlim d.1 c0' c1'
        obtain ⟨o14, -⟩ := W_ob W1
        refine bX11_remove_34 (k_is_o o14) (c_wipeWithin ok W1 dp1 hd ⟨d, hm, rfl⟩ hn g2 hpk h0 g1) ?_
        rintro h2 ⟨W2, dp2⟩
        exact tail h2 _ _ W2 (by omega) dp2 rfl (by rw [hF, if_pos c1'])
    · have c0' : d.1 = 0 := (nI_eq (a := d.1) (b := 0) (by omega) (by omega)).mp c0
      refine bX11_remove_13 ?_
      have hF : F_remove M x = (M, 2, 0) := by unfold F_remove; rw [if_neg (by rw [hx]; decide), if_pos (hd0.mpr c0')]
      rw [hF]
      exact ⟨W_le (W_sk W) (by omega), rfl⟩
end CR2
end
section
/-! THE CLASS SAVES AND ERASES RECORDS: what is taken away -/
theorem W_lew {a N w w' : Nat} {B : Nat × Nat} {h : k_H} {M : s_M} (W : c_W a B h M N w) (hw : w ≤ w') : c_W a B h M N w' := by
  obtain ⟨Q, S, PS, s, ⟨r1, r2⟩, p, co⟩ := W
  obtain ⟨CXf, x1, x2⟩ := r1
  exact ⟨Q, S, PS, s, ⟨⟨CXf, fun t ht => tb_ser (x1 t ht) (Nat.le_refl _) hw, x2⟩, r2⟩, p, co⟩
theorem W_wc {a N w t : Nat} {B : Nat × Nat} {h : k_H} {M : s_M} (W : c_W a B h M N w) (ht : t < 4) (hb : (g_X M t).1.1 = true) : ∀ y ∈ (g_X M t).2.1, c_wc y := by
  obtain ⟨Q, S, PS, s, ⟨⟨CXf, x1, -⟩, -⟩, p, co⟩ := W
  obtain ⟨RS, cap, capR, kept, o1, -, d⟩ := x1 t ht
  obtain ⟨⟨d0, -⟩, ⟨-, d3⟩, -⟩ := d hb
  intro y hy
  rw [d0] at hy
  obtain ⟨z, hz, rfl⟩ := List.mem_map.mp hy
  exact (d3 z (List.mem_filter.mp hz).1).2
theorem see_flt {c : Nat} {p : k_CH → Bool} : ∀ (CS : List k_CH) (z : Option Int32 × Bool), (∀ y ∈ CS, p y = false → s_cov y c = false) → s_see c (CS.filter p) z = s_see c CS z := by
  intro CS
  induction CS with
  | nil => exact fun _ _ => rfl
  | cons y CS ih =>
    intro z hy
    have hy2 := fun x hx => hy x (List.mem_cons_of_mem _ hx)
    cases hp : p y with
    | true =>
      rw [List.filter_cons_of_pos (by rw [hp])]
      show s_see c (CS.filter p) (if s_cov y c = true then _ else _) = s_see c CS (if s_cov y c = true then _ else _)
      exact ih _ hy2
    | false =>
      rw [List.filter_cons_of_neg (by rw [hp]; decide), ih _ hy2]
      show _ = s_see c CS (if s_cov y c = true then _ else z)
      rw [if_neg (by rw [hy y List.mem_cons_self hp]; decide)]
theorem ck8 {y : k_CH} (h : m_ck y = 8) (h8 : ¬ y.2.1 = 8) : y.2.1 = 6 ∧ y.2.2.1 / 121000000 = 996 := by
  unfold m_ck at h
  split at h
  · exact absurd h (by decide)
  · split at h
    · assumption
    · exact absurd h h8
/-- stamped changes are forgotten -/
def g_fg (M : s_M) (t c : Nat) : s_M := g_tx M t ((g_X M t).1, (g_X M t).2.1.filter (fun x => !(decide (x.2.1 = 6) && decide (x.2.2.1 = c))), (g_X M t).2.2)
theorem fg_kc {M : s_M} {t c d : Nat} : g_fg (g_kc M t 1 d 0 0) t c = g_kc (g_fg M t c) t 1 d 0 0 := by
  have hs : g_X (g_kc M t 1 d 0 0) t = ((g_X M t).1, (g_X M t).2.1 ++ [(g_ser M + 1, 1, d, d + 1, 0, 0)], (g_X M t).2.2) := g_kc_X M t 1 d 0 0
  have hs2 : g_X (g_fg M t c) t = ((g_X M t).1, (g_X M t).2.1.filter (fun x => !(decide (x.2.1 = 6) && decide (x.2.2.1 = c))), (g_X M t).2.2) := by
    show (if t = t then _ else _) = _
    rw [if_pos rfl]
  refine Prod.ext rfl (Prod.ext rfl (Prod.ext (funext fun q => ?_) rfl))
  show (if q = t then ((g_X (g_kc M t 1 d 0 0) t).1, (g_X (g_kc M t 1 d 0 0) t).2.1.filter (fun x => !(decide (x.2.1 = 6) && decide (x.2.2.1 = c))), (g_X (g_kc M t 1 d 0 0) t).2.2) else g_X (g_kc M t 1 d 0 0) q) = (if q = t then ((g_X (g_fg M t c) t).1, (g_X (g_fg M t c) t).2.1 ++ [(g_ser M + 1, 1, d, d + 1, 0, 0)], (g_X (g_fg M t c) t).2.2) else g_X (g_fg M t c) q)
  by_cases e : q = t
  · rw [if_pos e, if_pos e, hs, hs2, List.filter_append]
    rfl
  · rw [if_neg e, if_neg e]
    show (if q = t then _ else g_X M q) = (if q = t then _ else g_X M q)
    rw [if_neg e, if_neg e]
theorem cls_E {t : Nat} : ∀ (X : List k_K2) (M : s_M), (g_E M).1.Pairwise (fun x y => x.1 < y.1) → (∀ x ∈ X, ∃ q, (x.1, q) ∈ (g_E M).1) → g_E (g_cls t X M) = g_E M := by
  intro X
  induction X with
  | nil => exact fun _ _ _ => rfl
  | cons x X ih =>
    intro M hs hX
    obtain ⟨q, hq⟩ := hX x List.mem_cons_self
    have e : g_E (g_kc M t 1 x.1 0 0) = g_E M := g_kc_E hs hq
    show g_E (g_cls t X (g_kc M t 1 x.1 0 0)) = _
    rw [ih _ (by rw [e]; exact hs) (by rw [e]; exact fun y hy => hX y (List.mem_cons_of_mem _ hy)), e]
theorem fg_cls {t c : Nat} : ∀ (X : List k_K2) (M : s_M), g_fg (g_cls t X M) t c = g_cls t X (g_fg M t c) := by
  intro X
  induction X with
  | nil => exact fun _ => rfl
  | cons x X ih =>
    intro M
    show g_fg (g_cls t X (g_kc M t 1 x.1 0 0)) t c = g_cls t X (g_kc (g_fg M t c) t 1 x.1 0 0)
    rw [ih, fg_kc]
theorem cls_codes {t : Nat} : ∀ {X Y : List k_K2} (M : s_M), X.map (fun x => x.1) = Y.map (fun x => x.1) → g_cls t X M = g_cls t Y M := by
  intro X
  induction X with
  | nil =>
    intro Y M h
    cases Y with
    | nil => rfl
    | cons y Y => cases h
  | cons x X ih =>
    intro Y M h
    cases Y with
    | nil => cases h
    | cons y Y =>
      rw [List.map_cons, List.map_cons] at h
      injection h with h1 h2
      show g_cls t X (g_kc M t 1 x.1 0 0) = g_cls t Y (g_kc M t 1 y.1 0 0)
      rw [h1]
      exact ih _ h2
theorem fg_sdr {M : s_M} {t : Nat} {n : Int32} (hn : s_na n) (hw : ∀ y ∈ (g_X M t).2.1, c_wc y) (h8 : ∀ y ∈ (g_X M t).2.1, ¬ y.2.1 = 8) : g_fg M t (s_cd (-4) 0 n) = g_sdr M t n := by
  have h4 : s_na (-4) := na_m6.2.2.2.1
  have h0 : s_na 0 := na_100 (k := 0) (by omega)
  unfold g_fg g_sdr sv_drop
  congr 2
  refine congrArg (fun z => (z, (g_X M t).2.2)) (List.filter_congr fun y hy => ?_)
  congr 1
  unfold sv_is
  rw [Bool.eq_iff_iff]
  simp only [Bool.and_eq_true, decide_eq_true_eq]
  constructor
  · rintro ⟨e1, e2⟩
    have e3 : y.2.2.1 / 121000000 = 996 := by rw [e2, s_cd_div h0 hn]; decide
    refine ⟨?_, by rw [e2]; exact s_no_2 h4 h0 hn⟩
    unfold m_ck
    rw [if_neg (fun z => by rw [e1] at z; exact absurd z.1 (by decide)), if_pos ⟨e1, e3⟩]
  · rintro ⟨e1, e2⟩
    obtain ⟨e3, e4⟩ := ck8 e1 (h8 y hy)
    refine ⟨e3, ?_⟩
    have := (hw y hy).2.2.2.2 e3 e4
    rw [e2] at this
    exact this
theorem seen_sdr {M : s_M} {t : Nat} {n : Int32} (h8 : ∀ y ∈ (g_X M t).2.1, ¬ y.2.1 = 8) : sv_seen (g_sdr M t n) t n = sv_seen M t n := by
  have hX : g_X (g_sdr M t n) t = ((g_X M t).1, sv_drop n (g_X M t).2.1, (g_X M t).2.2) := g_sdr_X M t n
  have e : ∀ c, g_see (g_sdr M t n) t c = g_see M t c := fun c => by
    unfold g_see
    rw [hX]
    show s_see c (sv_drop n (g_X M t).2.1) (r_val c (g_X M t).1.2.2.1 (g_E M).2.1, false) = _
    unfold sv_drop
    refine see_flt _ _ fun y hy hf => ?_
    have hf2 : sv_is n y = true := by cases h : sv_is n y with | true => rfl | false => rw [h] at hf; cases hf
    unfold sv_is at hf2
    rw [Bool.and_eq_true, decide_eq_true_eq] at hf2
    obtain ⟨e3, e4⟩ := ck8 hf2.1 (h8 y hy)
    unfold s_cov s_ord
    rw [e3]
    simp
  unfold sv_seen g_rng
  have : (fun c => s_vis (g_see (g_sdr M t n) t c)) = (fun c => s_vis (g_see M t c)) := funext fun c => by rw [e]
  rw [this]
  rfl
/-- what keeps give -/
def sv_ok (M : s_M) (t : Nat) : Prop := (g_X M t).1.1 = true ∧ (g_X M t).1.2.2.1 ≤ g_n M ∧ g_nm M ∧ (g_E M).2.1.length ≤ 420000 ∧ (g_E M).2.2.length ≤ 8192 ∧ (∀ y ∈ (g_X M t).2.1, ¬ y.2.1 = 8)
theorem ok_kc {M : s_M} {t c : Nat} {k v p : Int32} (h : sv_ok M t) (hk : k = 6 ∨ k = 0 ∨ k = 1 ∨ k = 2) : sv_ok (g_kc M t k c v p) t := by
  obtain ⟨h1, h2, h3, h4, h5, h6⟩ := h
  have hX := g_kc_X M t k c v p
  refine ⟨by rw [hX]; exact h1, by rw [hX]; exact h2, ?_, h4, h5, fun y hy => ?_⟩
  · intro u hu y hy
    have sub : ∀ z ∈ (g_E M).1, ∃ q, (z.1, q) ∈ (g_E (g_kc M t k c v p)).1 := fun z hz => by
      show ∃ q, (z.1, q) ∈ (if m_ck (g_ser M + 1, k, c, c + 1, v, p) < 6 then m_ins c (g_E M).1 else (g_E M).1)
      split
      · exact ⟨z.2, m_ins_iff.mpr (Or.inl hz)⟩
      · exact ⟨z.2, hz⟩
    have old : ∀ y ∈ (g_X M u).2.1, y.2.1 = 1 ∨ y.2.1 = 6 ∨ (y.2.2.2.1 = y.2.2.1 + 1 ∧ ∃ q, (y.2.2.1, q) ∈ (g_E (g_kc M t k c v p)).1) := fun y hy => by
      rcases h3 u hu y hy with e | e | ⟨e, q, hq⟩
      · exact Or.inl e
      · exact Or.inr (Or.inl e)
      · exact Or.inr (Or.inr ⟨e, sub _ hq⟩)
    by_cases e : u = t
    · subst e
      rw [hX] at hy
      rcases List.mem_append.mp hy with hy | hy
      · exact old y hy
      · rw [List.mem_singleton.mp hy]
        rcases hk with hk | hk | hk | hk
        · exact Or.inr (Or.inl hk)
        · refine Or.inr (Or.inr ⟨rfl, ?_⟩)
          show ∃ q, (c, q) ∈ (if m_ck (g_ser M + 1, k, c, c + 1, v, p) < 6 then m_ins c (g_E M).1 else (g_E M).1)
          rw [m_ck_kc _ (fun z => by rw [hk] at z; exact absurd z.1 (by decide)), if_pos (by rw [hk]; decide)]
          exact m_ins_has c
        · exact Or.inl hk
        · refine Or.inr (Or.inr ⟨rfl, ?_⟩)
          show ∃ q, (c, q) ∈ (if m_ck (g_ser M + 1, k, c, c + 1, v, p) < 6 then m_ins c (g_E M).1 else (g_E M).1)
          rw [m_ck_kc _ (fun z => by rw [hk] at z; exact absurd z.1 (by decide)), if_pos (by rw [hk]; decide)]
          exact m_ins_has c
    · have hXu : g_X (g_kc M t k c v p) u = g_X M u := by
        show (if u = t then _ else g_X M u) = _
        rw [if_neg e]
      rw [hXu] at hy
      exact old y hy
  · rw [hX] at hy
    rcases List.mem_append.mp hy with hy | hy
    · exact h6 y hy
    · rw [List.mem_singleton.mp hy]
      show ¬ k = 8
      rcases hk with hk | hk | hk | hk <;> rw [hk] <;> decide
theorem ok_rk {M : s_M} {t c : Nat} (h : sv_ok M t) : sv_ok (g_rk M t c) t := by
  obtain ⟨h1, h2, h3, h4, h5, h6⟩ := h
  have hX : g_X (g_rk M t c) t = ((g_X M t).1, (g_X M t).2.1, s_rdk true (g_X M t).2.1 (g_X M t).2.2 c (g_ser M)) := by
    show (if t = t then _ else _) = _
    rw [if_pos rfl]
  refine ⟨by rw [hX]; exact h1, by rw [hX]; exact h2, fun u hu y hy => ?_, h4, h5, fun y hy => ?_⟩
  · by_cases e : u = t
    · subst e
      rw [hX] at hy
      exact h3 u hu y hy
    · have hXu : g_X (g_rk M t c) u = g_X M u := by
        show (if u = t then _ else g_X M u) = _
        rw [if_neg e]
      rw [hXu] at hy
      exact h3 u hu y hy
  · rw [hX] at hy
    exact h6 y hy
theorem ok_lim {M : s_M} {t a b c : Nat} (h : sv_ok M t) (B : sv_B M t a b c) (hb : b ≤ 12000) : e_lim (g_E M) := ⟨Nat.le_trans B.2.1 hb, h.2.2.2.1, h.2.2.2.2.1⟩
section CSV
variable {G : k_G} {l : Launch}
theorem c_E_keyForP (ok : k_ok G l) {a : Nat} {h : k_H} {E : e_S} {n c S : Nat} {Q : List k_K2} (hs : c_sE a h E n Q S) (hc : c < 1331000000000) (hlim : e_lim E) : k_ctr (tX8_keyFor G l) [vR (some (a + 1)), vJ (lN c)] h (fun h' v => ∃ k S', v = some k ∧ c_sE a h' (m_ins c E.1, E.2) n Q S' ∧ S ≤ S' ∧ k_mo a [6, 7, 11] (c_A5 a) (S' - S) h h' ∧ ∀ c0 q0, c0 < 2 ^ 62 → c_pin a h c0 q0 → c_pin a h' c0 q0) := by
  obtain ⟨KS, L, WS, z, st, r, q, e⟩ := hs
  obtain ⟨b1, b2, b3, b4⟩ := sE_lim st r q.2 hlim (e_le_refl E)
  obtain ⟨h', v, t, k, rfl, st', hm, mv⟩ := c_S_keyFor ok st hc (by omega)
  have hl := c_ins_le c k KS
  exact ⟨h', _, t, k, _, rfl, ⟨_, L, WS, z, st', rE_ins r b4, ⟨fun y hy => c_ins_mem (q.1 y hy), q.2⟩, rfl⟩, by omega, mv_mono mv (fun _ h => by cases h) (fun p h => Or.inl h) (by omega), fun c0 q0 h0 hp => (pin_st st' h0).mpr (c_ins_mem ((pin_st st h0).mp hp))⟩
theorem C_keepP (ok : k_ok G l) {a t N w c : Nat} {B : Nat × Nat} {h : k_H} {M : s_M} {k v : Int32} (W : c_W a B h M N w) (ht : t < 4) (hb : (g_X M t).1.1 = true) (hk : k = 0 ∨ k = 1 ∨ k = 2 ∨ k = 3 ∨ k = 4 ∨ k = 5) (hc : c < 1331000000000) (hlim : e_lim (g_E M)) (hl : (g_X M t).2.1.length + w ≤ 13300) :
    k_ctv (tX11_keep G l) [vR (some a), vR (some (a + c_T t)), vI k, vJ (lN c), vI v] h (fun h' => c_W a B h' (g_kc M t k c v 0) (N + 1) w ∧ (∀ c0 q0, c0 < 2 ^ 62 → c_pin a h c0 q0 → c_pin a h' c0 q0) ∧ ∀ (ys : List Nat) (cap : Nat), h.1 (a + 12) = some (k_l ys cap) → h'.1 (a + 12) = some (k_l ys cap)) := by
  obtain ⟨Q, S, PS, s, r, p, co⟩ := W
  obtain ⟨r1, r2, r3, r4, r5, r6, r7⟩ := id r
  obtain ⟨f0, f1, f2, f3, f4, f5, o11⟩ := sE_obj s
  obtain ⟨n9, E9, Es, Ein⟩ := sE_n s
  obtain ⟨k6, k66, k7⟩ := kind6 hk
  refine k_ctv_of (eX11_keep ok.2 (bX11_keep_0 r3 rfl (k_is_o o11) (c_E_keyForP ok s hc hlim) ?_))
  rintro h1 _ ⟨q, S1, rfl, s1, hS, m1, pn1⟩
  have q1 := rs_sto r s m1
  have co1 := co_mo co m1
  obtain ⟨r11, -⟩ := id q1
  obtain ⟨kept, o1, -⟩ := tx_obj r11 ht
  refine bX11_keep_8 (k_is_o o1) (c_X_keepKey ok (k := k) (v := v) r11 ht hb k7 ⟨by show c < c + 1; omega, by show c + 1 ≤ _; omega, Or.inl (by show ¬ 1 < c + 1 - c; omega), fun z => absurd z k66, fun z => absurd z k66⟩ hl) ?_
  rintro h2 ⟨x2, m2⟩
  have ec : m_ck (g_ser M + 1, k, c, c + 1, v, 0) = k := m_ck_kc _ (fun z => k66 z.1)
  have eE : g_E (g_kp M t (g_ser M + 1, k, c, c + 1, v, 0)) = (m_ins c (g_E M).1, (g_E M).2) := by
    show ((if m_ck (g_ser M + 1, k, c, c + 1, v, 0) < 6 then m_ins c (g_E M).1 else (g_E M).1), (g_E M).2) = _
    rw [ec, if_pos k6]
  obtain ⟨s2, q2⟩ := rs_tx (M' := g_kp M t (g_ser M + 1, k, c, c + 1, v, 0)) s1 q1 ht m2 (by simp) x2 ⟨rfl, rfl, rfl, rfl, rfl, rfl⟩
  refine bX11_keep_17 ⟨rfl, ⟨Q, S1, PS, by unfold g_kc; rw [eE]; exact s2, q2, ⟨p.1, by unfold g_kc; rw [V_kp Es Ein]; exact p.2⟩, co_le (co_mo co1 m2) (by omega)⟩, fun c0 q0 h0 hp => pin_fr (pn1 c0 q0 h0 hp) m2 (by simp) (tx_nA ht 2 (by omega)) (fun q fs hq => tx_nO r11 ht q 7 fs hq (by decide)), fun ys cap hy => ?_⟩
  exact m2.1 _ _ (m1.1 _ _ hy (fun z => by rcases z with z | z | z | z <;> omega) (fun ci fs e => by cases e)) (tx_nA ht 12 (by omega)) (fun ci fs e => by cases e)
theorem C_takeVersions (ok : k_ok G l) {a t N w cnt : Nat} {B : Nat × Nat} {h : k_H} {M : s_M} {n : Int32} (W : c_W a B h M N w) (ht : t < 4) (hok : sv_ok M t) (hn : s_na n) (SB : sv_B M t 4094 11999 (2 ^ 30)) (hw : w ≤ 8000) (hlen : (g_X M t).2.1.length + (sv_seen M t n).length ≤ 4094) (hcnt : (g_X M t).2.1.countP (fun x => decide (x.2.1 = 6)) ≤ cnt) :
    k_ctv (tX11_takeAwayVersions G l) [vR (some a), vR (some (a + c_T t)), vI n] h (fun h' => c_W a B h' (sv_take M t n) (N + (sv_seen M t n).length) (w + cnt)) := by
  obtain ⟨k1, k2, k3, k4, k5, k6⟩ := id hok
  have n4 : s_na (-4) := na_m6.2.2.2.1
  have n10 : s_na 10000 := na_m6.2.2.2.2.2.2.2
  obtain ⟨hl1, hl2, hl3, hl4⟩ := s_hi_la n4 n10
  have ehi : s_la (-4) 10000 + 1 = s_hi (-4) 10000 := by decide
  have hlim := ok_lim hok SB (by omega)
  have hwc := W_wc W ht k1
  refine k_ctv_of (eX11_takeAwayVersions ok.2 (bX11_takeAwayVersions_0 (c_X11_lowOf ok n4 n10) ?_))
  rintro _ _ ⟨hh, rfl⟩
  rw [hh]
  refine bX11_takeAwayVersions_10 (c_X11_highOf ok n4 n10) ?_
  rintro _ _ ⟨hh, rfl⟩
  rw [hh]
  obtain ⟨Q, S, PS, s, r, p, co⟩ := id W
  have hn9 := (sE_n s).1
  refine bX11_takeAwayVersions_18 (k_is_o r.2.2.1) (c_listSeen ok s r co ht k1 (by omega) (by omega) (by omega) hlim k3) ?_
  rintro h1 ⟨s1, q1, co1, X, cap, l12, eX, hX⟩
  have W1 : c_W a B h1 M N w := ⟨Q, S, PS, s1, q1, p, co1⟩
  have pins : ∀ y ∈ X, y.1 < 1331000000000 ∧ c_pin a h1 y.1 y.2 := fun y hy => by
    obtain ⟨z1, ⟨xs, c2, z2, z3⟩, f, z4⟩ := hX y hy
    exact ⟨z1, xs, c2, z2, z3, f, z4⟩
  have hXl : X.length ≤ 12000 := by
    have := congrArg List.length eX
    rw [List.length_map, List.length_map] at this
    rw [this]
    exact Nat.le_trans (List.length_filter_le _ _) hlim.1
  have eseen : (X.filter (fun y => decide (s_no y.1 2 = n))).map (fun x => x.1) = (sv_seen M t n).map (fun x => x.1) := by
    unfold sv_seen
    rw [ehi]
    have f1 : ∀ Z : List k_K2, (Z.filter (fun y => decide (s_no y.1 2 = n))).map (fun x => x.1) = (Z.map (fun x => x.1)).filter (fun c => decide (s_no c 2 = n)) := fun Z => by
      rw [List.filter_map]; rfl
    rw [f1, f1, eX]
  have efin : g_fg (g_cls t (X.filter (fun y => decide (s_no y.1 2 = n))) M) t (s_cd (-4) 0 n) = sv_take M t n := by
    rw [fg_cls, fg_sdr hn hwc k6, cls_codes _ eseen]
    unfold sv_take
    rw [seen_sdr k6]
  have elen : (X.filter (fun y => decide (s_no y.1 2 = n))).length = (sv_seen M t n).length := by
    have := congrArg List.length eseen
    rw [List.length_map, List.length_map] at this
    exact this
  refine bX11_takeAwayVersions_21 ?_
  have key : ∀ (todo pre : List k_K2) (hh : k_H), X = pre ++ todo → c_W a B hh (g_cls t (pre.filter (fun y => decide (s_no y.1 2 = n))) M) (N + (pre.filter (fun y => decide (s_no y.1 2 = n))).length) w → sv_ok (g_cls t (pre.filter (fun y => decide (s_no y.1 2 = n))) M) t → hh.1 (a + 12) = some (k_l (X.map (fun x => x.2)) cap) → (∀ y ∈ X, c_pin a hh y.1 y.2) →
      k_X (jX11_takeAwayVersions G l h) hh 23 [(0, vR (some a)), (1, vR (some (a + c_T t))), (2, vI n), (3, vI (nI pre.length))] [] (q_v (fun h' => c_W a B h' (sv_take M t n) (N + (sv_seen M t n).length) (w + cnt))) := by
    intro todo
    induction todo with
    | nil =>
      intro pre hh hp W2 ok2 e12 pn
      rw [List.append_nil] at hp
      have hpl : X.length = pre.length := by rw [hp]
      obtain ⟨o14, -⟩ := W_ob W2
      refine bX11_takeAwayVersions_23 o14 rfl (Or.inr ⟨rfl, _, _, e12⟩) (c_size ok e12) ?_
      rintro _ _ ⟨hh2, rfl⟩
      rw [hh2, List.length_map]
      refine bX11_takeAwayVersions_31 (fun _ => ?_) (fun c => absurd (nI_le (Nat.le_of_eq hpl) (by omega)) c)
      rw [← hp] at W2 ok2
      rw [elen] at W2
      have n0 : s_na 0 := na_100 (k := 0) (by omega)
      refine bX11_takeAwayVersions_75 (c_X11_codeOf ok n4 n0 hn) ?_
      rintro _ _ ⟨hh2, rfl⟩
      rw [hh2]
      obtain ⟨Q, S, PS, s, r, p, co⟩ := id W2
      obtain ⟨kept, o12, -⟩ := tx_obj r.1 ht
      have hlen2 : (g_X (g_cls t (X.filter (fun y => decide (s_no y.1 2 = n))) M) t).2.1.length ≤ 4094 := by
        rw [g_cls_len, elen]; exact hlen
      refine bX11_takeAwayVersions_83 (k_is_o o12) (c_X_forget ok r.1 ht ok2.1 (s_cd_lt n4 n0 hn) (by omega)) ?_
      rintro h5 ⟨x5, m5⟩
      have hc2 : (g_X (g_cls t (X.filter (fun y => decide (s_no y.1 2 = n))) M) t).2.1.countP (fun x => decide (x.2.1 = 6) && decide (x.2.2.1 = s_cd (-4) 0 n)) ≤ cnt := by
        refine Nat.le_trans ?_ hcnt
        refine Nat.le_trans (List.countP_mono_left (q := fun x => decide (x.2.1 = 6)) (fun x _ hx => by simp at hx ⊢; exact hx.1)) ?_
        have : ∀ (Z : List k_K2) (M : s_M), (g_X (g_cls t Z M) t).2.1.countP (fun x => decide (x.2.1 = 6)) = (g_X M t).2.1.countP (fun x => decide (x.2.1 = 6)) := by
          intro Z
          induction Z with
          | nil => exact fun _ => rfl
          | cons z Z ihz =>
            intro M
            show (g_X (g_cls t Z (g_kc M t 1 z.1 0 0)) t).2.1.countP _ = _
            rw [ihz, g_kc_X, List.countP_append]
            rfl
        rw [this]
        exact Nat.le_refl _
      obtain ⟨s5, q5⟩ := rs_tx (M' := g_fg (g_cls t (X.filter (fun y => decide (s_no y.1 2 = n))) M) t (s_cd (-4) 0 n)) s r ht m5 (by simp) x5 ⟨rfl, rfl, rfl, rfl, rfl, rfl⟩
      have W5 : c_W a B h5 (g_fg (g_cls t (X.filter (fun y => decide (s_no y.1 2 = n))) M) t (s_cd (-4) 0 n)) (N + (sv_seen M t n).length) _ := ⟨Q, S, PS, s5, q5, p, co_le (co_mo co m5) (Nat.le_refl _)⟩
      rw [efin] at W5
      exact bX11_takeAwayVersions_86 ⟨rfl, W_lew W5 (by omega)⟩
    | cons y todo ih =>
      intro pre hh hp W2 ok2 e12 pn
      have hlt : pre.length < X.length := by rw [hp, List.length_append, List.length_cons]; omega
      have hy : (X.map (fun x => x.2))[pre.length]? = some y.2 := by rw [hp]; simp
      have hym : y ∈ X := by rw [hp]; simp
      obtain ⟨o14, -⟩ := W_ob W2
      obtain ⟨f, oy⟩ := pin_o (pn y hym)
      have hyc := (pins y hym).1
      refine bX11_takeAwayVersions_23 o14 rfl (Or.inr ⟨rfl, _, _, e12⟩) (c_size ok e12) ?_
      rintro _ _ ⟨hh2, rfl⟩
      rw [hh2, List.length_map]
      refine bX11_takeAwayVersions_31 (fun c => absurd c (nI_ge hlt (by omega))) (fun _ => ?_)
      refine bX11_takeAwayVersions_34 o14 rfl (Or.inr ⟨rfl, _, _, e12⟩) (c_get ok e12 hy) ?_
      rintro _ _ ⟨hh2, rfl⟩
      rw [hh2]
      refine bX11_takeAwayVersions_42 oy rfl (c_X11_numberOf ok hyc) ?_
      rintro _ _ ⟨hh2, rfl⟩
      rw [hh2]
      have es : s_pl 2 = 2 := by decide
      rw [es]
      refine bX11_takeAwayVersions_56 (fun c => ?_) (fun c => ?_)
      · refine bX11_takeAwayVersions_69 ?_
        rw [nI_1]
        have := ih (pre ++ [y]) hh (by rw [hp]; simp)
        rw [List.length_append, List.length_singleton, List.filter_append, List.filter_cons_of_neg (by simp [c]), List.filter_nil, List.append_nil] at this
        exact this W2 ok2 e12 pn
      · have hpf : (pre.filter (fun y => decide (s_no y.1 2 = n))).length ≤ (sv_seen M t n).length := by
          rw [← elen, hp, List.filter_append, List.length_append]
          omega
        have hpf2 : (pre.filter (fun y => decide (s_no y.1 2 = n))).length + 1 ≤ (sv_seen M t n).length := by
          rw [← elen, hp, List.filter_append, List.length_append, List.filter_cons_of_pos (by simp [c]), List.length_cons]
          omega
        have hlenk : (g_X (g_cls t (pre.filter (fun y => decide (s_no y.1 2 = n))) M) t).2.1.length + w ≤ 13300 := by
          rw [g_cls_len]; omega
        have hlimk : e_lim (g_E (g_cls t (pre.filter (fun y => decide (s_no y.1 2 = n))) M)) := by
          rw [cls_E _ M (sE_n s).2.2.1 (fun z hz => ?_)]
          · exact hlim
          · have hz2 : z ∈ X := by rw [hp]; exact List.mem_append_left _ (List.mem_filter.mp hz).1
            have hz3 : z.1 ∈ (g_rng M t (s_lo (-4) 10000) (s_hi (-4) 10000)).map (fun x => x.1) := by rw [← eX]; exact List.mem_map.mpr ⟨z, hz2, rfl⟩
            obtain ⟨u, hu, eu⟩ := List.mem_map.mp hz3
            exact ⟨u.2, by rw [← eu]; exact (r_flt_of hu).1⟩
        refine bX11_takeAwayVersions_60 (k_is_o o14) (C_keepP ok W2 ht ok2.1 (Or.inr (Or.inl rfl)) hyc hlimk hlenk) ?_
        rintro h3 ⟨W3, pn3, l3⟩
        refine bX11_takeAwayVersions_69 ?_
        rw [nI_1]
        have := ih (pre ++ [y]) h3 (by rw [hp]; simp)
        rw [List.length_append, List.length_singleton, List.filter_append, List.filter_cons_of_pos (by simp [c]), List.filter_nil, List.length_append, List.length_singleton] at this
        have ecls : g_cls t (pre.filter (fun y => decide (s_no y.1 2 = n)) ++ [y]) M = g_kc (g_cls t (pre.filter (fun y => decide (s_no y.1 2 = n))) M) t 1 y.1 0 0 := by
          unfold g_cls
          rw [List.foldl_append]
          rfl
        rw [ecls] at this
        exact this W3 (ok_kc ok2 (Or.inr (Or.inr (Or.inl rfl)))) (l3 _ _ e12) (fun z hz => pn3 _ _ (by have := (pins z hz).1; omega) (pn z hz))
  exact key X [] h1 rfl W1 hok l12 (fun y hy => (pins y hy).2)
end CSV
end
section
/-! THE CLASS SAVES AND ERASES RECORDS -/
def gv1 (v i : Int32) (g : Bool) : Int32 := if g = true then v ||| (1 <<< (i &&& 31)) else v
def gv (g0 g1 g2 : Bool) : Int32 := gv1 (gv1 (gv1 0 0 g0) 1 g1) 2 g2
theorem gv_bits (g0 g1 g2 : Bool) : ((gv g0 g1 g2 &&& (1 <<< ((0 : Int32) &&& 31))) = 0 ↔ g0 = false) ∧ ((gv g0 g1 g2 &&& (1 <<< ((1 : Int32) &&& 31))) = 0 ↔ g1 = false) ∧ ((gv g0 g1 g2 &&& (1 <<< ((2 : Int32) &&& 31))) = 0 ↔ g2 = false) := by
  cases g0 <;> cases g1 <;> cases g2 <;> decide
theorem goes_eq {st n : Int32} (h0 : ¬ n < 0) (h9 : ¬ 99 < n) : ((if st = -2147483648 then (1000 : Int32) else st) < n) ↔ s_goes st n = false := by
  unfold s_goes
  by_cases c : st = -2147483648
  · rw [if_pos c, decide_eq_true c, Bool.true_or]
    constructor
    · intro h
      have h1 := Int32.lt_iff_toInt_lt.mp h
      have h2 : ¬ (99 : Int32).toInt < n.toInt := fun z => h9 (Int32.lt_iff_toInt_lt.mpr z)
      have e1 : (1000 : Int32).toInt = 1000 := by decide
      have e2 : (99 : Int32).toInt = 99 := by decide
      omega
    · intro h; cases h
  · rw [if_neg c, decide_eq_false c, Bool.false_or]
    by_cases d : st = -1000
    · rw [decide_eq_false (fun z => z d), Bool.false_and]
      refine ⟨fun _ => rfl, fun _ => ?_⟩
      rw [d]
      have h2 : ¬ n.toInt < (0 : Int32).toInt := fun z => h0 (Int32.lt_iff_toInt_lt.mpr z)
      have e1 : (-1000 : Int32).toInt = -1000 := by decide
      have e2 : (0 : Int32).toInt = 0 := by decide
      exact Int32.lt_iff_toInt_lt.mpr (by omega)
    · rw [decide_eq_true d, Bool.true_and, decide_eq_false_iff_not]
      exact Int32.not_le.symm
def sv_k3 (M : s_M) (t : Nat) : s_M := g_rk (g_rk (g_rk M t (sv_co 0)) t (sv_co 1)) t (sv_co 2)
section CS2
variable {G : k_G} {l : Launch}
theorem W_rk (ok : k_ok G l) {a t N w c : Nat} {B : Nat × Nat} {h : k_H} {M : s_M} (W : c_W a B h M N w) (ht : t < 4) (hok : sv_ok M t) (hc : c < 2 ^ 60) (hl : (g_X M t).2.2.length < 2048) :
    k_cti (tX11_readCounting G l) [vR (some a), vR (some (a + c_T t)), vJ (lN c)] h (fun h' v => v = o_told (g_see M t c).1 ∧ c_W a B h' (g_rk M t c) (N + 1) w) := by
  obtain ⟨Q, S, PS, s, r, p, co⟩ := W
  have hn9 := (sE_n s).1
  have hra := hok.2.1
  obtain ⟨h', v, tr, e, s', r', co'⟩ := c_readCounting ok s r co ht hok.1 hc (by omega) hl
  exact ⟨h', v, tr, e, Q, S, PS, s', r', p, co'⟩
theorem C_readIndexes (ok : k_ok G l) {a t N w : Nat} {B : Nat × Nat} {h : k_H} {M : s_M} {n : Int32} (W : c_W a B h M N w) (ht : t < 4) (hok : sv_ok M t) (h0 : ¬ n < 0) (h9 : ¬ 99 < n) (hl : (g_X M t).2.2.length + 4 ≤ 2048) :
    k_cti (tX11_readIndexes G l) [vR (some a), vR (some (a + c_T t)), vI n] h (fun h' v => v = gv (sv_go M t 0 n) (sv_go M t 1 n) (sv_go M t 2 n) ∧ c_W a B h' (sv_k3 M t) (N + 3) w) := by
  refine k_cti_of (eX11_readIndexes ok.2 (bX11_readIndexes_0 ?_))
  have step : ∀ (i v : Int32) (hh : k_H) (M' : s_M) (N' : Nat), s_na i → ¬ 3 ≤ i → c_W a B hh M' N' w → sv_ok M' t → (g_X M' t).2.2.length < 2048 → (∀ h2, c_W a B h2 (g_rk M' t (sv_co i)) (N' + 1) w → k_X (jX11_readIndexes G l h) h2 5 [(0, vR (some a)), (1, vR (some (a + c_T t))), (2, vI n), (3, vI (gv1 v i (sv_go M' t i n))), (4, vI (i + 1))] [] (q_i (fun h' v => v = gv (sv_go M t 0 n) (sv_go M t 1 n) (sv_go M t 2 n) ∧ c_W a B h' (sv_k3 M t) (N + 3) w))) →
      k_X (jX11_readIndexes G l h) hh 5 [(0, vR (some a)), (1, vR (some (a + c_T t))), (2, vI n), (3, vI v), (4, vI i)] [] (q_i (fun h' v => v = gv (sv_go M t 0 n) (sv_go M t 1 n) (sv_go M t 2 n) ∧ c_W a B h' (sv_k3 M t) (N + 3) w)) := by
    intro i v hh M' N' hi hi3 W1 ok1 hl1 K
    refine bX11_readIndexes_5 (fun c => absurd c hi3) (fun _ => bX11_readIndexes_11 (c_X11_codeOf_ ok na_m6.1 hi) ?_)
    rintro _ _ ⟨hh2, rfl⟩
    rw [hh2]
    obtain ⟨o14, -⟩ := W_ob W1
    have hcd := s_cd_lt na_m6.1 hi na_m6.2.2.2.2.2.2.2
    refine bX11_readIndexes_20 (k_is_o o14) (W_rk ok W1 ht ok1 (by omega) hl1) ?_
    rintro h2 _ ⟨rfl, W2⟩
    refine bX11_readIndexes_23 (c_X11_indexGoesTo ok) ?_
    rintro _ _ ⟨hh2, rfl⟩
    rw [hh2]
    have hg := goes_eq (st := o_told (g_see M' t (s_cd (-6) i 10000)).1) h0 h9
    have hK := K h2 W2
    have ego : sv_go M' t i n = s_goes (o_told (g_see M' t (s_cd (-6) i 10000)).1) n := rfl
    refine bX11_readIndexes_26 (fun c => bX11_readIndexes_37 ?_) (fun c => bX11_readIndexes_30 (bX11_readIndexes_37 ?_))
    · rw [ego, hg.mp c] at hK
      exact hK
    · have : s_goes (o_told (g_see M' t (s_cd (-6) i 10000)).1) n = true := by
        cases hgo : s_goes (o_told (g_see M' t (s_cd (-6) i 10000)).1) n with
        | true => rfl
        | false => exact absurd (hg.mpr hgo) c
      rw [ego, this] at hK
      exact hK
  have l1 := g_rk_len M t (sv_co 0)
  have l2 := g_rk_len (g_rk M t (sv_co 0)) t (sv_co 1)
  refine step 0 0 h M N (na_100 (k := 0) (by omega)) (by decide) W hok (by omega) (fun h1 W1 => ?_)
  rw [show (0 + 1 : Int32) = 1 from by decide]
  refine step 1 _ h1 _ _ (na_100 (k := 1) (by omega)) (by decide) W1 (ok_rk hok) (by omega) (fun h2 W2 => ?_)
  rw [show (1 + 1 : Int32) = 2 from by decide]
  refine step 2 _ h2 _ _ (na_100 (k := 2) (by omega)) (by decide) W2 (ok_rk (ok_rk hok)) (by omega) (fun h3 W3 => ?_)
  rw [show (2 + 1 : Int32) = 3 from by decide]
  refine bX11_readIndexes_5 (fun _ => bX11_readIndexes_43 ⟨_, rfl, ?_, W3⟩) (fun c => absurd (by decide) c)
  have e1 : sv_go (g_rk M t (sv_co 0)) t 1 n = sv_go M t 1 n := by unfold sv_go; rw [g_rk_see]
  have e2 : sv_go (g_rk (g_rk M t (sv_co 0)) t (sv_co 1)) t 2 n = sv_go M t 2 n := by unfold sv_go; rw [g_rk_see, g_rk_see]
  rw [e1, e2]
  rfl
theorem W_kc (ok : k_ok G l) {a t N w c b d : Nat} {B : Nat × Nat} {h : k_H} {M : s_M} {k v : Int32} (W : c_W a B h M N w) (ht : t < 4) (hok : sv_ok M t) (hk : k = 0 ∨ k = 1 ∨ k = 2) (hc : c < 1331000000000) (SB : sv_B M t b 12000 d) (hb : b + w ≤ 13300) :
    k_ctv (tX11_keep G l) [vR (some a), vR (some (a + c_T t)), vI k, vJ (lN c), vI v] h (fun h' => c_W a B h' (g_kc M t k c v 0) (N + 1) w) :=
  C_keep ok W ht hok.1 (by rcases hk with e | e | e; exact Or.inl e; exact Or.inr (Or.inl e); exact Or.inr (Or.inr (Or.inl e))) hc (ok_lim hok SB (Nat.le_refl _)) (by have := SB.1; omega)
theorem C_takeAway0 (ok : k_ok G l) {a t N w b d : Nat} {B : Nat × Nat} {h : k_H} {M : s_M} {n old : Int32} (W : c_W a B h M N w) (ht : t < 4) (hok : sv_ok M t) (hn : s_na n) (ho : s_na old) (SB : sv_B M t b 12000 d) (hb : b + w ≤ 13300) :
    k_ctv (tX11_takeAway G l) [vR (some a), vR (some (a + c_T t)), vI 0, vI n, vI old] h (fun h' => c_W a B h' (g_kc M t 1 (s_cd (-2) old n) 0 0) (N + 1) w) := by
  obtain ⟨o14, -⟩ := W_ob W
  refine k_ctv_of (eX11_takeAway ok.2 (bX11_takeAway_0 (fun c => absurd rfl c) (fun _ => bX11_takeAway_4 (c_X11_codeOf ok na_m6.2.2.2.2.2.1 ho hn) ?_)))
  rintro _ _ ⟨hh, rfl⟩
  rw [hh]
  refine bX11_takeAway_15 (k_is_o o14) (W_kc ok W ht hok (Or.inr (Or.inl rfl)) (s_cd_lt na_m6.2.2.2.2.2.1 ho hn) SB hb) ?_
  rintro h1 W1
  exact bX11_takeAway_19 (bX11_takeAway_50 ⟨rfl, W1⟩)
theorem C_takeAway1 (ok : k_ok G l) {a t N w b d : Nat} {B : Nat × Nat} {h : k_H} {M : s_M} {n old : Int32} (W : c_W a B h M N w) (ht : t < 4) (hok : sv_ok M t) (ho : s_na old) (SB : sv_B M t b 12000 d) (hb : b + w ≤ 13300) :
    k_ctv (tX11_takeAway G l) [vR (some a), vR (some (a + c_T t)), vI 1, vI n, vI old] h (fun h' => c_W a B h' (g_kc M t 2 (s_cd (-3) old 10000) (-1) 0) (N + 1) w) := by
  obtain ⟨o14, -⟩ := W_ob W
  refine k_ctv_of (eX11_takeAway ok.2 (bX11_takeAway_0 (fun _ => bX11_takeAway_22 (fun c => absurd rfl c) (fun _ => bX11_takeAway_27 (c_X11_codeOf_ ok na_m6.2.2.2.2.1 ho) ?_)) (fun c => absurd c (by decide))))
  rintro _ _ ⟨hh, rfl⟩
  rw [hh]
  refine bX11_takeAway_37 (k_is_o o14) (W_kc ok W ht hok (Or.inr (Or.inr rfl)) (s_cd_lt na_m6.2.2.2.2.1 ho na_m6.2.2.2.2.2.2.2) SB hb) ?_
  rintro h1 W1
  exact bX11_takeAway_41 (bX11_takeAway_50 ⟨rfl, W1⟩)
theorem C_takeAway2 (ok : k_ok G l) {a t N w cnt : Nat} {B : Nat × Nat} {h : k_H} {M : s_M} {n old : Int32} (W : c_W a B h M N w) (ht : t < 4) (hok : sv_ok M t) (hn : s_na n) (SB : sv_B M t 4094 11999 (2 ^ 30)) (hw : w ≤ 8000) (hlen : (g_X M t).2.1.length + (sv_seen M t n).length ≤ 4094) (hcnt : (g_X M t).2.1.countP (fun x => decide (x.2.1 = 6)) ≤ cnt) :
    k_ctv (tX11_takeAway G l) [vR (some a), vR (some (a + c_T t)), vI 2, vI n, vI old] h (fun h' => c_W a B h' (sv_take M t n) (N + (sv_seen M t n).length) (w + cnt)) := by
  obtain ⟨o14, -⟩ := W_ob W
  refine k_ctv_of (eX11_takeAway ok.2 (bX11_takeAway_0 (fun _ => bX11_takeAway_22 (fun _ => bX11_takeAway_44 (k_is_o o14) (C_takeVersions ok W ht hok hn SB hw hlen hcnt) ?_) (fun c => absurd c (by decide))) (fun c => absurd c (by decide))))
  rintro h1 W1
  exact bX11_takeAway_50 ⟨rfl, W1⟩
theorem C_putThere0 (ok : k_ok G l) {a t N w b d : Nat} {B : Nat × Nat} {h : k_H} {M : s_M} {n field : Int32} (W : c_W a B h M N w) (ht : t < 4) (hok : sv_ok M t) (hn : s_na n) (ho : s_na field) (SB : sv_B M t b 12000 d) (hb : b + w ≤ 13300) :
    k_ctv (tX11_putThere G l) [vR (some a), vR (some (a + c_T t)), vI 0, vI n, vI field] h (fun h' => c_W a B h' (g_kc M t 0 (s_cd (-2) field n) 0 0) (N + 1) w) := by
  obtain ⟨o14, -⟩ := W_ob W
  refine k_ctv_of (eX11_putThere ok.2 (bX11_putThere_0 (fun c => absurd rfl c) (fun _ => bX11_putThere_4 (c_X11_codeOf ok na_m6.2.2.2.2.2.1 ho hn) ?_)))
  rintro _ _ ⟨hh, rfl⟩
  rw [hh]
  refine bX11_putThere_15 (k_is_o o14) (W_kc ok W ht hok (Or.inl rfl) (s_cd_lt na_m6.2.2.2.2.2.1 ho hn) SB hb) ?_
  rintro h1 W1
  exact bX11_putThere_19 (bX11_putThere_58 ⟨rfl, W1⟩)
theorem C_putThere1 (ok : k_ok G l) {a t N w b d : Nat} {B : Nat × Nat} {h : k_H} {M : s_M} {n field : Int32} (W : c_W a B h M N w) (ht : t < 4) (hok : sv_ok M t) (ho : s_na field) (SB : sv_B M t b 12000 d) (hb : b + w ≤ 13300) :
    k_ctv (tX11_putThere G l) [vR (some a), vR (some (a + c_T t)), vI 1, vI n, vI field] h (fun h' => c_W a B h' (g_kc M t 2 (s_cd (-3) field 10000) 1 0) (N + 1) w) := by
  obtain ⟨o14, -⟩ := W_ob W
  refine k_ctv_of (eX11_putThere ok.2 (bX11_putThere_0 (fun _ => bX11_putThere_22 (fun c => absurd rfl c) (fun _ => bX11_putThere_27 (c_X11_codeOf_ ok na_m6.2.2.2.2.1 ho) ?_)) (fun c => absurd c (by decide))))
  rintro _ _ ⟨hh, rfl⟩
  rw [hh]
  refine bX11_putThere_37 (k_is_o o14) (W_kc ok W ht hok (Or.inr (Or.inr rfl)) (s_cd_lt na_m6.2.2.2.2.1 ho na_m6.2.2.2.2.2.2.2) SB hb) ?_
  rintro h1 W1
  exact bX11_putThere_41 (bX11_putThere_58 ⟨rfl, W1⟩)
theorem C_putThere2 (ok : k_ok G l) {a t N w : Nat} {B : Nat × Nat} {h : k_H} {M : s_M} {n field : Int32} (W : c_W a B h M N w) (ht : t < 4) (hb : (g_X M t).1.1 = true) (hn : s_na n) (hl : (g_X M t).2.1.length + w ≤ 13300) :
    k_ctv (tX11_putThere G l) [vR (some a), vR (some (a + c_T t)), vI 2, vI n, vI field] h (fun h' => c_W a B h' (g_kc M t 6 (s_cd (-4) 0 n) field 1) (N + 1) w) := by
  obtain ⟨o14, -⟩ := W_ob W
  have n4 : s_na (-4) := na_m6.2.2.2.1
  have n0 : s_na 0 := na_100 (k := 0) (by omega)
  obtain ⟨fs, o12, -⟩ := W_obj W ht
  have hdiv : s_cd (-4) 0 n / 121000000 = 996 := by rw [s_cd_div n0 hn]; decide
  refine k_ctv_of (eX11_putThere ok.2 (bX11_putThere_0 (fun _ => bX11_putThere_22 (fun _ => bX11_putThere_44 (c_X11_codeOf ok n4 n0 hn) ?_) (fun c => absurd c (by decide))) (fun c => absurd c (by decide))))
  rintro _ _ ⟨hh, rfl⟩
  rw [hh]
  refine bX11_putThere_52 (k_is_o o12) (C_keepStamped ok W ht hb (s_cd_lt n4 n0 hn) ?_ (fun _ => by rw [s_no_2 n4 n0 hn]) hl) ?_
  · rw [m_ck_k8 _ hdiv]
    rfl
  rintro h1 W1
  exact bX11_putThere_58 ⟨rfl, W1⟩
/-- a turn of the loop over the indexes -/
theorem wr_step {h0 : k_H} {a t : Nat} {n field v old i : Int32} {g had saves : Bool} {Q : k_H → k_R → Prop} {P1 P2 P3 : k_H → Prop} (hi : ¬ 3 ≤ i) (hg : (v &&& (1 <<< (i &&& 31))) = 0 ↔ g = false) (hh : old = -2147483648 ↔ had = false) (hs : field = -2147483648 ↔ saves = false)
    (o1 : ∀ hh, P1 hh → k_is hh a 14) (o2 : ∀ hh, P2 hh → k_is hh a 14)
    (hTA : (g && had) = true → ∀ hh, P1 hh → k_ctv (tX11_takeAway G l) [vR (some a), vR (some (a + c_T t)), vI i, vI n, vI old] hh P2) (hTA0 : (g && had) = false → ∀ hh, P1 hh → P2 hh)
    (hPT : (g && saves) = true → ∀ hh, P2 hh → k_ctv (tX11_putThere G l) [vR (some a), vR (some (a + c_T t)), vI i, vI n, vI field] hh P3) (hPT0 : (g && saves) = false → ∀ hh, P2 hh → P3 hh)
    (K : ∀ hh, P3 hh → k_X (jX11_writeRecord G l h0) hh 39 [(0, vR (some a)), (1, vR (some (a + c_T t))), (2, vI n), (3, vI field), (4, vI v), (5, vI old), (6, vI (i + 1))] [] Q) :
    ∀ hh, P1 hh → k_X (jX11_writeRecord G l h0) hh 39 [(0, vR (some a)), (1, vR (some (a + c_T t))), (2, vI n), (3, vI field), (4, vI v), (5, vI old), (6, vI i)] [] Q := by
  intro h1 p1
  -- behind the taking away
  have mid : ∀ (h2 : k_H) (x : Int32), P2 h2 → (x = 0 ↔ g = false) → k_X (jX11_writeRecord G l h0) h2 84 [(0, vR (some a)), (1, vR (some (a + c_T t))), (2, vI n), (3, vI field), (4, vI v), (5, vI old), (6, vI i), (7, vI x)] [] Q := by
    intro h2 x p2 hx
    have out : (g && saves) = false → k_X (jX11_writeRecord G l h0) h2 104 [(0, vR (some a)), (1, vR (some (a + c_T t))), (2, vI n), (3, vI field), (4, vI v), (5, vI old), (6, vI i)] [] Q := fun hc => bX11_writeRecord_104 (K h2 (hPT0 hc h2 p2))
    refine bX11_writeRecord_84 (fun c => out ?_) (fun c => bX11_writeRecord_89 (fun d => out ?_) (fun d => ?_))
    · rw [hx.mp c, Bool.false_and]
    · rw [hs.mp d, Bool.and_false]
    · have hg1 : g = true := by cases g; exact absurd (hx.mpr rfl) c; rfl
      have hs1 : saves = true := by cases saves; exact absurd (hs.mpr rfl) d; rfl
      refine bX11_writeRecord_95 (o2 h2 p2) (hPT (by rw [hg1, hs1]; rfl) h2 p2) ?_
      rintro h3 p3
      exact bX11_writeRecord_104 (K h3 p3)
  have go : ∀ x : Int32, (x = 0 ↔ g = false) → k_X (jX11_writeRecord G l h0) h1 60 [(0, vR (some a)), (1, vR (some (a + c_T t))), (2, vI n), (3, vI field), (4, vI v), (5, vI old), (6, vI i)] [vI x] Q := by
    intro x hx
    refine bX11_writeRecord_60 (fun c => mid h1 x (hTA0 ?_ h1 p1) hx) (fun c => bX11_writeRecord_67 (fun d => mid h1 x (hTA0 ?_ h1 p1) hx) (fun d => ?_))
    · rw [hx.mp c, Bool.false_and]
    · rw [hh.mp d, Bool.and_false]
    · have hg1 : g = true := by cases g; exact absurd (hx.mpr rfl) c; rfl
      have hh1 : had = true := by cases had; exact absurd (hh.mpr rfl) d; rfl
      refine bX11_writeRecord_74 (o1 h1 p1) (hTA (by rw [hg1, hh1]; rfl) h1 p1) ?_
      rintro h2 p2
      exact mid h2 x p2 hx
  refine bX11_writeRecord_39 (fun c => absurd c hi) (fun _ => bX11_writeRecord_45 (fun c => bX11_writeRecord_59 (go 0 ?_)) (fun c => bX11_writeRecord_55 (go 1 ?_)))
  · exact ⟨fun _ => hg.mp c, fun _ => rfl⟩
  · refine ⟨fun z => absurd z (by decide), fun z => absurd (hg.mpr z) c⟩
end CS2
end
section
/-! THE CLASS'S save AND erase -/
theorem ok_1 {M : s_M} {t c : Nat} {k v p : Int32} {z : Bool} (h : sv_ok M t) (hk : k = 6 ∨ k = 0 ∨ k = 1 ∨ k = 2) : sv_ok (sv_1 z t k c v p M) t := by
  cases z with
  | true => rw [sv_1_t rfl]; exact ok_kc h hk
  | false => rw [sv_1_f rfl]; exact h
theorem ok_sdr {M : s_M} {t : Nat} {n : Int32} (h : sv_ok M t) : sv_ok (g_sdr M t n) t := by
  obtain ⟨h1, h2, h3, h4, h5, h6⟩ := h
  have hX := g_sdr_X M t n
  refine ⟨by rw [hX]; exact h1, by rw [hX]; exact h2, fun u hu y hy => ?_, h4, h5, fun y hy => ?_⟩
  · by_cases e : u = t
    · subst e
      rw [hX] at hy
      exact h3 u hu y (List.mem_filter.mp hy).1
    · have hXu : g_X (g_sdr M t n) u = g_X M u := by
        show (if u = t then _ else g_X M u) = _
        rw [if_neg e]
      rw [hXu] at hy
      exact h3 u hu y hy
  · rw [hX] at hy
    exact h6 y (List.mem_filter.mp hy).1
theorem ok_cls {t : Nat} : ∀ (X : List k_K2) (M : s_M), sv_ok M t → sv_ok (g_cls t X M) t := by
  intro X
  induction X with
  | nil => exact fun _ h => h
  | cons x X ih => exact fun M h => ih _ (ok_kc h (Or.inr (Or.inr (Or.inl rfl))))
theorem ok_q {M : s_M} {t : Nat} {n : Int32} {z : Bool} (h : sv_ok M t) : sv_ok (sv_q z t n M) t := by
  cases z with
  | true => exact ok_cls _ _ (ok_sdr h)
  | false => exact h
def c_n6 (M : s_M) (t : Nat) : Nat := (g_X M t).2.1.countP (fun x => decide (x.2.1 = 6))
theorem c_n6_1 {M : s_M} {t c : Nat} {k v p : Int32} {z : Bool} (hk : ¬ k = 6) : c_n6 (sv_1 z t k c v p M) t = c_n6 M t := by
  cases z with
  | true =>
    rw [sv_1_t rfl]
    unfold c_n6
    rw [g_kc_X, List.countP_append]
    have e : ∀ y : k_CH, y.2.1 = k → List.countP (fun x : k_CH => decide (x.2.1 = 6)) [y] = 0 := fun y hy => by
      rw [List.countP_eq_zero]
      intro x hx
      rw [List.mem_singleton.mp hx, hy]
      simp [hk]
    rw [e _ rfl, Nat.add_zero]
  | false => rw [sv_1_f rfl]
theorem c_n6_rk (M : s_M) (t c : Nat) : c_n6 (g_rk M t c) t = c_n6 M t := by
  unfold c_n6
  have hX : g_X (g_rk M t c) t = ((g_X M t).1, (g_X M t).2.1, s_rdk true (g_X M t).2.1 (g_X M t).2.2 c (g_ser M)) := by
    show (if t = t then _ else _) = _
    rw [if_pos rfl]
  rw [hX]
theorem in99_s {n : Int32} (h : s_inB n 0 99 = true) : ¬ n < 0 ∧ ¬ 99 < n := by
  unfold s_inB at h
  simp only [Bool.and_eq_true, decide_eq_true_eq] at h
  exact h
theorem na_ne {x : Int32} (h : s_na x) : ¬ x = -2147483648 := fun z => by
  rw [z] at h
  rcases h with h | h
  · exact absurd h (by decide)
  · exact absurd h (by unfold s_nm; decide)
section CS3
variable {G : k_G} {l : Launch}
theorem C_writeRecord (ok : k_ok G l) {a t N w sl : Nat} {B : Nat × Nat} {h : k_H} {M : s_M} {n field : Int32} {saves : Bool} (W : c_W a B h M N w) (ht : t < 4) (hok : sv_ok M t) (hn : s_inB n 0 99 = true) (hfield : saves = true → s_na field) (hold : ∀ v, (g_see M t (sv_re n)).1 = some v → s_na v)
    (SB : sv_B M t 4090 11990 (2 ^ 29)) (hrd : (g_X M t).2.2.length + 4 ≤ 2048) (hw : w ≤ 8000) (h12 : (g_X M t).2.1.length ≤ 12)
    (hlen : (sv_go M t 2 n && (g_see M t (sv_re n)).1.isSome) = true → (g_X (sv_mid M t n saves field) t).2.1.length + (sv_seen (g_sdr (sv_mid M t n saves field) t n) t n).length ≤ 4094 ∧ (sv_seen (g_sdr (sv_mid M t n saves field) t n) t n).length ≤ sl) :
    k_cti (tX11_writeRecord G l) [vR (some a), vR (some (a + c_T t)), vI n, vI (if saves = true then field else -2147483648)] h (fun h' v => c_W a B h' (sv_w M t n saves field).1 (N + 10 + sl) (w + 12) ∧ v = (sv_w M t n saves field).2) := by
  obtain ⟨n0, n9⟩ := in99_s hn
  obtain ⟨j, hj, ej⟩ := in99_n hn
  have hna : s_na n := by rw [ej]; exact na_100 (by omega)
  obtain ⟨o14, -⟩ := W_ob W
  refine k_cti_of (eX11_writeRecord ok.2 (bX11_writeRecord_0 (k_is_o o14) (C_readIndexes ok W ht hok n0 n9 hrd) ?_))
  rintro h1 _ ⟨rfl, W1⟩
  have ok3 : sv_ok (sv_k3 M t) t := ok_rk (ok_rk (ok_rk hok))
  have l1 := g_rk_len M t (sv_co 0)
  have l2 := g_rk_len (g_rk M t (sv_co 0)) t (sv_co 1)
  have l3 := g_rk_len (g_rk (g_rk M t (sv_co 0)) t (sv_co 1)) t (sv_co 2)
  have hcd := s_cd_lt na_m6.2.2.2.2.2.2.1 hna na_m6.2.2.2.2.2.2.2
  refine bX11_writeRecord_6 (c_X11_codeOf_ ok na_m6.2.2.2.2.2.2.1 hna) ?_
  rintro _ _ ⟨hh, rfl⟩
  rw [hh]
  obtain ⟨o14, -⟩ := W_ob W1
  have l4 : (g_X (sv_k3 M t) t).2.2.length < 2048 := by
    show (g_X (g_rk (g_rk (g_rk M t (sv_co 0)) t (sv_co 1)) t (sv_co 2)) t).2.2.length < 2048
    omega
  refine bX11_writeRecord_15 (k_is_o o14) (W_rk ok W1 ht ok3 (by omega) l4) ?_
  rintro h2 _ ⟨rfl, W2⟩
  have esee : g_see (sv_k3 M t) t (s_cd (-1) n 10000) = g_see M t (sv_re n) := by
    unfold sv_k3
    rw [g_rk_see, g_rk_see, g_rk_see]
    rfl
  rw [esee]
  have W2 : c_W a B h2 (sv_r4 M t n) (N + 4) w := W2
  have ok4 : sv_ok (sv_r4 M t n) t := ok_rk ok3
  have SB0 : sv_B (sv_r4 M t n) t 4090 11990 (2 ^ 29) := sv_B_rk (sv_B_rk (sv_B_rk (sv_B_rk SB _) _) _) _
  have hhad : o_told (g_see M t (sv_re n)).1 = -2147483648 ↔ (g_see M t (sv_re n)).1.isSome = false := by
    cases hs : (g_see M t (sv_re n)).1 with
    | none => exact ⟨fun _ => rfl, fun _ => rfl⟩
    | some v => exact ⟨fun z => absurd z (na_ne (hold v hs)), fun z => by cases z⟩
  have hfld : (if saves = true then field else (-2147483648 : Int32)) = -2147483648 ↔ saves = false := by
    cases saves with
    | true => rw [if_pos rfl]; exact ⟨fun z => absurd z (na_ne (hfield rfl)), fun z => by cases z⟩
    | false => exact ⟨fun _ => rfl, fun _ => rfl⟩
  have hold2 : (g_see M t (sv_re n)).1.isSome = true → s_na (o_told (g_see M t (sv_re n)).1) := fun e => by
    obtain ⟨v, hv⟩ := Option.isSome_iff_exists.mp e
    rw [hv]
    exact hold v hv
  have hf2 : saves = true → (if saves = true then field else (-2147483648 : Int32)) = field := fun e => by rw [if_pos e]
  generalize hfc : (if saves = true then field else (-2147483648 : Int32)) = fc at hfld hf2
  generalize hgh : (g_see M t (sv_re n)).1.isSome = had at hhad hold2 hlen
  generalize hgo : o_told (g_see M t (sv_re n)).1 = old at hhad hold2
  obtain ⟨b0, b1, b2⟩ := gv_bits (sv_go M t 0 n) (sv_go M t 1 n) (sv_go M t 2 n)
  -- the states
  have A1e : ∀ M0, M0 = sv_r4 M t n → sv_p (sv_go M t 0 n) (sv_go M t 1 n) had saves t n old field M0 = sv_1 (sv_go M t 1 n && saves) t 2 (s_cd (-3) field 10000) 1 0 (sv_1 (sv_go M t 1 n && had) t 2 (s_cd (-3) old 10000) (-1) 0 (sv_1 (sv_go M t 0 n && saves) t 0 (s_cd (-2) field n) 0 0 (sv_1 (sv_go M t 0 n && had) t 1 (s_cd (-2) old n) 0 0 M0))) := fun _ _ => rfl
  have emid : sv_mid M t n saves field = sv_p (sv_go M t 0 n) (sv_go M t 1 n) had saves t n old field (sv_r4 M t n) := by
    unfold sv_mid
    rw [hgh, hgo]
  rw [emid, A1e _ rfl] at hlen
  have efin : ¬ (saves = false ∧ had = false) → (sv_w M t n saves field) = (g_kc (sv_1 (sv_go M t 2 n && saves) t 6 (s_cd (-4) 0 n) field 1 (sv_q (sv_go M t 2 n && had) t n (sv_1 (sv_go M t 1 n && saves) t 2 (s_cd (-3) field 10000) 1 0 (sv_1 (sv_go M t 1 n && had) t 2 (s_cd (-3) old 10000) (-1) 0 (sv_1 (sv_go M t 0 n && saves) t 0 (s_cd (-2) field n) 0 0 (sv_1 (sv_go M t 0 n && had) t 1 (s_cd (-2) old n) 0 0 (sv_r4 M t n))))))) t (if saves = true then 0 else 1) (sv_re n) fc 0, old) := fun hc => by
    unfold sv_w sv_all sv_f
    rw [if_neg, hgh, hgo, A1e _ rfl, hfc]
    rintro ⟨z1, z2⟩
    refine hc ⟨z1, ?_⟩
    rw [← hgh, z2]
    rfl
  have efin0 : saves = false ∧ had = false → sv_w M t n saves field = (sv_r4 M t n, -2147483648) := fun hc => by
    have hs0 : (g_see M t (sv_re n)).1 = none := by
      have h2 := hc.2
      rw [← hgh] at h2
      cases hs : (g_see M t (sv_re n)).1 with
      | none => rfl
      | some v => rw [hs] at h2; cases h2
    unfold sv_w
    rw [if_pos ⟨hc.1, hs0⟩]
  generalize hM0 : sv_r4 M t n = M0 at W2 ok4 SB0 hlen efin efin0
  have c60 : c_n6 M0 t ≤ 12 := by
    rw [← hM0]
    have : c_n6 (sv_r4 M t n) t = c_n6 M t := by
      unfold sv_r4
      rw [c_n6_rk, c_n6_rk, c_n6_rk, c_n6_rk]
    rw [this]
    exact Nat.le_trans (List.countP_le_length) h12
  have SB1 := sv_B_1 SB0 (sv_go M t 0 n && had) 1 (s_cd (-2) old n) 0 0
  have ok1 := ok_1 (z := sv_go M t 0 n && had) (k := 1) (c := s_cd (-2) old n) (v := 0) (p := 0) ok4 (Or.inr (Or.inr (Or.inl rfl)))
  have c61 := c_n6_1 (M := M0) (t := t) (z := sv_go M t 0 n && had) (k := 1) (c := s_cd (-2) old n) (v := 0) (p := 0) (by decide)
  have TA0 : (sv_go M t 0 n && had) = true → ∀ hh, c_W a B hh M0 (N + 4) w → k_ctv (tX11_takeAway G l) [vR (some a), vR (some (a + c_T t)), vI 0, vI n, vI old] hh (fun hh => c_W a B hh (sv_1 (sv_go M t 0 n && had) t 1 (s_cd (-2) old n) 0 0 M0) (N + 5) w) := fun e hh W => by
    rw [Bool.and_eq_true] at e
    rw [sv_1_t (by rw [e.1, e.2]; rfl)]
    exact C_takeAway0 ok W ht ok4 hna (hold2 e.2) ⟨SB0.1, Nat.le_trans SB0.2.1 (by omega), SB0.2.2⟩ (by omega)
  have TA00 : (sv_go M t 0 n && had) = false → ∀ hh, c_W a B hh M0 (N + 4) w → c_W a B hh (sv_1 (sv_go M t 0 n && had) t 1 (s_cd (-2) old n) 0 0 M0) (N + 5) w := fun e hh W => by
    rw [sv_1_f e]; exact W_le W (by omega)
  generalize sv_1 (sv_go M t 0 n && had) t 1 (s_cd (-2) old n) 0 0 M0 = M1 at SB1 ok1 c61 TA0 TA00 hlen efin
  have SB2 := sv_B_1 SB1 (sv_go M t 0 n && saves) 0 (s_cd (-2) field n) 0 0
  have ok2 := ok_1 (z := sv_go M t 0 n && saves) (k := 0) (c := s_cd (-2) field n) (v := 0) (p := 0) ok1 (Or.inr (Or.inl rfl))
  have c62 := c_n6_1 (M := M1) (t := t) (z := sv_go M t 0 n && saves) (k := 0) (c := s_cd (-2) field n) (v := 0) (p := 0) (by decide)
  have PT0 : (sv_go M t 0 n && saves) = true → ∀ hh, c_W a B hh M1 (N + 5) w → k_ctv (tX11_putThere G l) [vR (some a), vR (some (a + c_T t)), vI 0, vI n, vI fc] hh (fun hh => c_W a B hh (sv_1 (sv_go M t 0 n && saves) t 0 (s_cd (-2) field n) 0 0 M1) (N + 6) w) := fun e hh W => by
    rw [Bool.and_eq_true] at e
    rw [sv_1_t (by rw [e.1, e.2]; rfl), hf2 e.2]
    exact C_putThere0 ok W ht ok1 hna (hfield e.2) ⟨SB1.1, Nat.le_trans SB1.2.1 (by omega), SB1.2.2⟩ (by omega)
  have PT00 : (sv_go M t 0 n && saves) = false → ∀ hh, c_W a B hh M1 (N + 5) w → c_W a B hh (sv_1 (sv_go M t 0 n && saves) t 0 (s_cd (-2) field n) 0 0 M1) (N + 6) w := fun e hh W => by
    rw [sv_1_f e]; exact W_le W (by omega)
  generalize sv_1 (sv_go M t 0 n && saves) t 0 (s_cd (-2) field n) 0 0 M1 = M2 at SB2 ok2 c62 PT0 PT00 hlen efin
  have SB3 := sv_B_1 SB2 (sv_go M t 1 n && had) 2 (s_cd (-3) old 10000) (-1) 0
  have ok3 := ok_1 (z := sv_go M t 1 n && had) (k := 2) (c := s_cd (-3) old 10000) (v := -1) (p := 0) ok2 (Or.inr (Or.inr (Or.inr rfl)))
  have c63 := c_n6_1 (M := M2) (t := t) (z := sv_go M t 1 n && had) (k := 2) (c := s_cd (-3) old 10000) (v := -1) (p := 0) (by decide)
  have TA1 : (sv_go M t 1 n && had) = true → ∀ hh, c_W a B hh M2 (N + 6) w → k_ctv (tX11_takeAway G l) [vR (some a), vR (some (a + c_T t)), vI 1, vI n, vI old] hh (fun hh => c_W a B hh (sv_1 (sv_go M t 1 n && had) t 2 (s_cd (-3) old 10000) (-1) 0 M2) (N + 7) w) := fun e hh W => by
    rw [Bool.and_eq_true] at e
    rw [sv_1_t (by rw [e.1, e.2]; rfl)]
    exact C_takeAway1 ok W ht ok2 (hold2 e.2) ⟨SB2.1, Nat.le_trans SB2.2.1 (by omega), SB2.2.2⟩ (by omega)
  have TA10 : (sv_go M t 1 n && had) = false → ∀ hh, c_W a B hh M2 (N + 6) w → c_W a B hh (sv_1 (sv_go M t 1 n && had) t 2 (s_cd (-3) old 10000) (-1) 0 M2) (N + 7) w := fun e hh W => by
    rw [sv_1_f e]; exact W_le W (by omega)
  generalize sv_1 (sv_go M t 1 n && had) t 2 (s_cd (-3) old 10000) (-1) 0 M2 = M3 at SB3 ok3 c63 TA1 TA10 hlen efin
  have SB4 := sv_B_1 SB3 (sv_go M t 1 n && saves) 2 (s_cd (-3) field 10000) 1 0
  have ok4 := ok_1 (z := sv_go M t 1 n && saves) (k := 2) (c := s_cd (-3) field 10000) (v := 1) (p := 0) ok3 (Or.inr (Or.inr (Or.inr rfl)))
  have c64 := c_n6_1 (M := M3) (t := t) (z := sv_go M t 1 n && saves) (k := 2) (c := s_cd (-3) field 10000) (v := 1) (p := 0) (by decide)
  have PT1 : (sv_go M t 1 n && saves) = true → ∀ hh, c_W a B hh M3 (N + 7) w → k_ctv (tX11_putThere G l) [vR (some a), vR (some (a + c_T t)), vI 1, vI n, vI fc] hh (fun hh => c_W a B hh (sv_1 (sv_go M t 1 n && saves) t 2 (s_cd (-3) field 10000) 1 0 M3) (N + 8) w) := fun e hh W => by
    rw [Bool.and_eq_true] at e
    rw [sv_1_t (by rw [e.1, e.2]; rfl), hf2 e.2]
    exact C_putThere1 ok W ht ok3 (hfield e.2) ⟨SB3.1, Nat.le_trans SB3.2.1 (by omega), SB3.2.2⟩ (by omega)
  have PT10 : (sv_go M t 1 n && saves) = false → ∀ hh, c_W a B hh M3 (N + 7) w → c_W a B hh (sv_1 (sv_go M t 1 n && saves) t 2 (s_cd (-3) field 10000) 1 0 M3) (N + 8) w := fun e hh W => by
    rw [sv_1_f e]; exact W_le W (by omega)
  generalize sv_1 (sv_go M t 1 n && saves) t 2 (s_cd (-3) field 10000) 1 0 M3 = M4 at SB4 ok4 c64 PT1 PT10 hlen efin
  rw [seen_sdr ok4.2.2.2.2.2] at hlen
  have ok5 := ok_q (z := sv_go M t 2 n && had) (n := n) ok4
  have TA2 : (sv_go M t 2 n && had) = true → ∀ hh, c_W a B hh M4 (N + 8) w → k_ctv (tX11_takeAway G l) [vR (some a), vR (some (a + c_T t)), vI 2, vI n, vI old] hh (fun hh => c_W a B hh (sv_q (sv_go M t 2 n && had) t n M4) (N + 8 + sl) (w + 12) ∧ sv_B (sv_q (sv_go M t 2 n && had) t n M4) t 4094 11994 (2 ^ 30)) := fun e hh W => by
    obtain ⟨q1, q2⟩ := hlen e
    have eq : sv_q (sv_go M t 2 n && had) t n M4 = sv_take M4 t n := by unfold sv_q; rw [if_pos e]
    rw [eq]
    obtain ⟨h', tr, W'⟩ := C_takeAway2 ok (old := old) W ht ok4 hna ⟨Nat.le_trans SB4.1 (by omega), Nat.le_trans SB4.2.1 (by omega), Nat.le_trans SB4.2.2 (by omega)⟩ hw q1 (cnt := 12) (by show c_n6 M4 t ≤ 12; omega)
    obtain ⟨Q, S, PS, s, -⟩ := W
    refine ⟨h', tr, W_le W' (by omega), ?_⟩
    have := sv_B_take (n := n) SB4 (sE_n s).2.2.1 (by rw [seen_sdr ok4.2.2.2.2.2]; exact q1) (by omega)
    exact ⟨this.1, this.2.1, Nat.le_trans this.2.2 (by omega)⟩
  have TA20 : (sv_go M t 2 n && had) = false → ∀ hh, c_W a B hh M4 (N + 8) w → c_W a B hh (sv_q (sv_go M t 2 n && had) t n M4) (N + 8 + sl) (w + 12) ∧ sv_B (sv_q (sv_go M t 2 n && had) t n M4) t 4094 11994 (2 ^ 30) := fun e hh W => by
    have eq : sv_q (sv_go M t 2 n && had) t n M4 = M4 := by unfold sv_q; rw [if_neg (by rw [e]; decide)]
    rw [eq]
    exact ⟨W_lew (W_le W (by omega)) (by omega), SB4.1, SB4.2.1, Nat.le_trans SB4.2.2 (by omega)⟩
  generalize sv_q (sv_go M t 2 n && had) t n M4 = M5 at ok5 TA2 TA20 efin
  have ok6 := ok_1 (z := sv_go M t 2 n && saves) (k := 6) (c := s_cd (-4) 0 n) (v := field) (p := 1) ok5 (Or.inl rfl)
  have PT2 : (sv_go M t 2 n && saves) = true → ∀ hh, (c_W a B hh M5 (N + 8 + sl) (w + 12) ∧ sv_B M5 t 4094 11994 (2 ^ 30)) → k_ctv (tX11_putThere G l) [vR (some a), vR (some (a + c_T t)), vI 2, vI n, vI fc] hh (fun hh => c_W a B hh (sv_1 (sv_go M t 2 n && saves) t 6 (s_cd (-4) 0 n) field 1 M5) (N + 9 + sl) (w + 12) ∧ sv_B (sv_1 (sv_go M t 2 n && saves) t 6 (s_cd (-4) 0 n) field 1 M5) t 4095 11995 (2 ^ 30 + 1)) := fun e hh W => by
    have e2 := e
    rw [Bool.and_eq_true] at e
    have hB := sv_B_1 W.2 (sv_go M t 2 n && saves) 6 (s_cd (-4) 0 n) field 1
    rw [hf2 e.2]
    obtain ⟨h', tr, W'⟩ := C_putThere2 ok (field := field) W.1 ht ok5.1 hna (by have := W.2.1; omega)
    refine ⟨h', tr, ?_, hB⟩
    rw [sv_1_t e2]
    exact W_le W' (by omega)
  have PT20 : (sv_go M t 2 n && saves) = false → ∀ hh, (c_W a B hh M5 (N + 8 + sl) (w + 12) ∧ sv_B M5 t 4094 11994 (2 ^ 30)) → c_W a B hh (sv_1 (sv_go M t 2 n && saves) t 6 (s_cd (-4) 0 n) field 1 M5) (N + 9 + sl) (w + 12) ∧ sv_B (sv_1 (sv_go M t 2 n && saves) t 6 (s_cd (-4) 0 n) field 1 M5) t 4095 11995 (2 ^ 30 + 1) := fun e hh W => by
    have hB := sv_B_1 W.2 (sv_go M t 2 n && saves) 6 (s_cd (-4) 0 n) field 1
    refine ⟨?_, hB⟩
    rw [sv_1_f e]
    exact W_le W.1 (by omega)
  generalize sv_1 (sv_go M t 2 n && saves) t 6 (s_cd (-4) 0 n) field 1 M5 = M6 at ok6 PT2 PT20 efin
  -- the loop
  have wob : ∀ {hh : k_H} {M' : s_M} {N' w' : Nat}, c_W a B hh M' N' w' → k_is hh a 14 := fun W => k_is_o (W_ob W).1
  have run : ¬ (saves = false ∧ had = false) → k_X (jX11_writeRecord G l h) h2 36 [(0, vR (some a)), (1, vR (some (a + c_T t))), (2, vI n), (3, vI fc), (4, vI (gv (sv_go M t 0 n) (sv_go M t 1 n) (sv_go M t 2 n))), (5, vI old)] [] (q_i (fun h' v => c_W a B h' (sv_w M t n saves field).1 (N + 10 + sl) (w + 12) ∧ v = (sv_w M t n saves field).2)) := fun hc => by
    rw [efin hc]
    refine bX11_writeRecord_36 ?_
    refine wr_step (P1 := fun hh => c_W a B hh M0 (N + 4) w) (P2 := fun hh => c_W a B hh M1 (N + 5) w) (P3 := fun hh => c_W a B hh M2 (N + 6) w) (by decide) b0 hhad hfld (fun _ W => wob W) (fun _ W => wob W) TA0 TA00 PT0 PT00 (fun h3 W3 => ?_) h2 W2
    rw [show (0 + 1 : Int32) = 1 from by decide]
    refine wr_step (P1 := fun hh => c_W a B hh M2 (N + 6) w) (P2 := fun hh => c_W a B hh M3 (N + 7) w) (P3 := fun hh => c_W a B hh M4 (N + 8) w) (by decide) b1 hhad hfld (fun _ W => wob W) (fun _ W => wob W) TA1 TA10 PT1 PT10 (fun h4 W4 => ?_) h3 W3
    rw [show (1 + 1 : Int32) = 2 from by decide]
    refine wr_step (P1 := fun hh => c_W a B hh M4 (N + 8) w) (P2 := fun hh => c_W a B hh M5 (N + 8 + sl) (w + 12) ∧ sv_B M5 t 4094 11994 (2 ^ 30)) (P3 := fun hh => c_W a B hh M6 (N + 9 + sl) (w + 12) ∧ sv_B M6 t 4095 11995 (2 ^ 30 + 1)) (by decide) b2 hhad hfld (fun _ W => wob W) (fun _ W => wob W.1) TA2 TA20 PT2 PT20 (fun h5 W5 => ?_) h4 W4
    rw [show (2 + 1 : Int32) = 3 from by decide]
    obtain ⟨W5, SB6⟩ := W5
    obtain ⟨o14, -⟩ := W_ob W5
    have fin : ∀ k : Int32, k = (if saves = true then 0 else 1) → k_X (jX11_writeRecord G l h) h5 123 [(2, vI n), (3, vI fc), (5, vI old)] [vI k, vR (some (a + c_T t)), vR (some a)] (q_i (fun h' v => c_W a B h' (g_kc M6 t (if saves = true then 0 else 1) (sv_re n) fc 0) (N + 10 + sl) (w + 12) ∧ v = old)) := fun k hk => by
      refine bX11_writeRecord_123 (c_X11_codeOf_ ok na_m6.2.2.2.2.2.2.1 hna) ?_
      rintro _ _ ⟨hh, rfl⟩
      rw [hh]
      have hk2 : k = 0 ∨ k = 1 ∨ k = 2 := by rw [hk]; split; exact Or.inl rfl; exact Or.inr (Or.inl rfl)
      refine bX11_writeRecord_128 (k_is_o o14) (W_kc ok (v := fc) W5 ht ok6 hk2 hcd ⟨SB6.1, Nat.le_trans SB6.2.1 (by omega), SB6.2.2⟩ (by omega)) ?_
      rintro h6 W6
      rw [hk] at W6
      exact bX11_writeRecord_132 ⟨_, rfl, W_le W6 (by omega), rfl⟩
    refine bX11_writeRecord_39 (fun _ => bX11_writeRecord_110 (fun c => bX11_writeRecord_122 (fin 0 ?_)) (fun c => bX11_writeRecord_118 (fin 1 ?_))) (fun c => absurd (by decide) c)
    · rw [if_pos]
      cases hsv : saves with
      | true => rfl
      | false => exact absurd (hfld.mpr hsv) c
    · rw [if_neg (by rw [hfld.mp c]; decide)]
  refine bX11_writeRecord_18 (fun c => run (fun z => c (hhad.mpr z.2))) (fun c => bX11_writeRecord_27 (fun d => run (fun z => d (hfld.mpr z.1))) (fun d => bX11_writeRecord_33 ?_))
  rw [efin0 ⟨hfld.mp d, hhad.mp c⟩]
  exact ⟨_, rfl, W_lew (W_le W2 (by omega)) (by omega), rfl⟩
/-- what a save needs -/
def sv_C (M : s_M) (n field : Int32) (saves : Bool) (sl : Nat) : Prop := ∀ t, t < 4 → s_inB n 0 99 = true → (saves = true → s_inB field 0 99 = true) → g_shut M t = false → sv_ok M t ∧ sv_L M t n saves field ∧ sv_st M t n = false ∧ ((sv_go M t 2 n && (g_see M t (sv_re n)).1.isSome) = true → (sv_seen (g_sdr (sv_mid M t n saves field) t n) t n).length ≤ sl)
theorem C_save (ok : k_ok G l) {a N w sl : Nat} {B : Nat × Nat} {h : k_H} {M : s_M} {x n field : Int32} (W : c_W a B h M N w) (hw : w ≤ 8000) (hl9 : ∀ t, t < 4 → (g_X M t).2.1.length < 2 ^ 20) (hC : sv_C M n field true sl) : k_ct (tX11_save G l) [vR (some a), vI x, vI n, vI field] h (c_R a B (F_save M x n field) x_3 (N + 10 + sl) (w + 12)) := by
  obtain ⟨Q, S, PS, s, r, p, co⟩ := id W
  obtain ⟨r1, r2, r3, r4, r5, r6, r7⟩ := id r
  have X1 : ∀ {k : Nat}, k ≠ 0 → F_save M x n field = (M, k, 0) → c_R a B (F_save M x n field) x_3 (N + 10 + sl) (w + 12) (k_sk h 1 6) (.inr (x_3 k)) := fun hk hF => by
    rw [hF]
    refine ⟨W_lew (W_le (W_sk W) (by omega)) (by omega), ?_⟩
    show _ = if _ = 0 then _ else _
    rw [if_neg hk]
  refine eX11_save ok.2 ?_
  cases hin : s_inB x 0 3 with
  | false =>
    refine bX11_save_0x (k_is_o r3) (c_trAtX ok r3 r4 hin) ?_
    rintro _ rfl
    exact X1 (k := 1) (by decide) (by unfold F_save F_saved; rw [if_pos hin])
  | true =>
    obtain ⟨t, ht, rfl, e9⟩ := s_in4 hin
    have e9 : t_of (nI t) = t := e9
    refine bX11_save_0 (k_is_o r3) (c_trAt ok r3 r4 r1 ht) ?_
    rintro _ _ ⟨hh, rfl⟩
    rw [hh]
    cases hn : s_inB n 0 99 with
    | false =>
      refine bX11_save_5x (x_X11_requireRecord ok (in99_not hn)) ?_
      rintro _ rfl
      exact X1 (k := 2) (by decide) (by unfold F_save F_saved; rw [if_neg (by rw [hin]; decide), hn, Bool.false_and, if_pos rfl])
    | true =>
      refine bX11_save_5 (c_X11_requireRecord ok (in99 hn)) ?_
      rintro _ hh
      rw [hh]
      cases hf : s_inB field 0 99 with
      | false =>
        refine bX11_save_11x (x_X11_requireField ok (in99_not hf)) ?_
        rintro _ rfl
        exact X1 (k := 2) (by decide) (by unfold F_save F_saved; rw [if_neg (by rw [hin]; decide), hf, hn, if_pos (by decide)])
      | true =>
        refine bX11_save_11 (c_X11_requireField ok (in99 hf)) ?_
        rintro _ hh
        rw [hh]
        have hall : ¬ (s_inB n 0 99 && (!true || s_inB field 0 99)) = false := by rw [hn, hf]; decide
        cases hsh : g_shut M t with
        | true =>
          refine bX11_save_15x (c_roomX ok r1 ht (hl9 t ht) hsh) ?_
          rintro _ rfl
          exact X1 (k := 3) (by decide) (by unfold F_save F_saved; rw [if_neg (by rw [hin]; decide), if_neg hall, e9, if_pos (by rw [hsh]; rfl)])
        | false =>
          obtain ⟨q1, ⟨q2, q3, q4, q5⟩, q6, q7⟩ := hC t ht hn (fun _ => hf) hsh
          obtain ⟨hb, hl⟩ := g_shutF hsh
          have hF : F_save M (nI t) n field = ((sv_w M t n true field).1, 0, (sv_w M t n true field).2) := by
            unfold F_save F_saved; rw [if_neg (by rw [hin]; decide), if_neg hall, e9, if_neg (by rw [hsh, q6]; decide)]
          refine bX11_save_15 (c_room ok r1 ht hb hl) ?_
          rintro _ hh
          rw [hh]
          have hfna : s_na field := by obtain ⟨j, hj, e⟩ := in99_n hf; rw [e]; exact na_100 (by omega)
          have := C_writeRecord ok (saves := true) (field := field) W ht q1 hn (fun _ => hfna) q2 q3 q4 hw (by omega) (fun e => ⟨q5 e, q7 e⟩)
          refine bX11_save_20 (k_is_o r3) this ?_
          rintro h2 _ ⟨W2, rfl⟩
          exact bX11_save_28 (R_ok W2 hF)
theorem C_erase (ok : k_ok G l) {a N w sl : Nat} {B : Nat × Nat} {h : k_H} {M : s_M} {x n : Int32} (W : c_W a B h M N w) (hw : w ≤ 8000) (hl9 : ∀ t, t < 4 → (g_X M t).2.1.length < 2 ^ 20) (hC : sv_C M n 0 false sl) : k_ct (tX11_erase G l) [vR (some a), vI x, vI n] h (c_R a B (F_erase M x n) x_3 (N + 10 + sl) (w + 12)) := by
  obtain ⟨Q, S, PS, s, r, p, co⟩ := id W
  obtain ⟨r1, r2, r3, r4, r5, r6, r7⟩ := id r
  have X1 : ∀ {k : Nat}, k ≠ 0 → F_erase M x n = (M, k, 0) → c_R a B (F_erase M x n) x_3 (N + 10 + sl) (w + 12) (k_sk h 1 6) (.inr (x_3 k)) := fun hk hF => by
    rw [hF]
    refine ⟨W_lew (W_le (W_sk W) (by omega)) (by omega), ?_⟩
    show _ = if _ = 0 then _ else _
    rw [if_neg hk]
  refine eX11_erase ok.2 ?_
  cases hin : s_inB x 0 3 with
  | false =>
    refine bX11_erase_0x (k_is_o r3) (c_trAtX ok r3 r4 hin) ?_
    rintro _ rfl
    exact X1 (k := 1) (by decide) (by unfold F_erase F_saved; rw [if_pos hin])
  | true =>
    obtain ⟨t, ht, rfl, e9⟩ := s_in4 hin
    have e9 : t_of (nI t) = t := e9
    refine bX11_erase_0 (k_is_o r3) (c_trAt ok r3 r4 r1 ht) ?_
    rintro _ _ ⟨hh, rfl⟩
    rw [hh]
    cases hn : s_inB n 0 99 with
    | false =>
      refine bX11_erase_5x (x_X11_requireRecord ok (in99_not hn)) ?_
      rintro _ rfl
      exact X1 (k := 2) (by decide) (by unfold F_erase F_saved; rw [if_neg (by rw [hin]; decide), hn, Bool.false_and, if_pos rfl])
    | true =>
      refine bX11_erase_5 (c_X11_requireRecord ok (in99 hn)) ?_
      rintro _ hh
      rw [hh]
      have hall : ¬ (s_inB n 0 99 && (!false || s_inB 0 0 99)) = false := by rw [hn]; decide
      cases hsh : g_shut M t with
      | true =>
        refine bX11_erase_10x (c_roomX ok r1 ht (hl9 t ht) hsh) ?_
        rintro _ rfl
        exact X1 (k := 3) (by decide) (by unfold F_erase F_saved; rw [if_neg (by rw [hin]; decide), if_neg hall, e9, if_pos (by rw [hsh]; rfl)])
      | false =>
        obtain ⟨q1, ⟨q2, q3, q4, q5⟩, q6, q7⟩ := hC t ht hn (fun z => by cases z) hsh
        obtain ⟨hb, hl⟩ := g_shutF hsh
        have hF : F_erase M (nI t) n = ((sv_w M t n false 0).1, 0, (sv_w M t n false 0).2) := by
          unfold F_erase F_saved; rw [if_neg (by rw [hin]; decide), if_neg hall, e9, if_neg (by rw [hsh, q6]; decide)]
        refine bX11_erase_10 (c_room ok r1 ht hb hl) ?_
        rintro _ hh
        rw [hh]
        have := C_writeRecord ok (saves := false) (field := 0) W ht q1 hn (fun z => by cases z) q2 q3 q4 hw (by omega) (fun e => ⟨q5 e, q7 e⟩)
        refine bX11_erase_14 (k_is_o r3) this ?_
        rintro h2 _ ⟨W2, rfl⟩
        exact bX11_erase_22 (R_ok W2 hF)
end CS3
end
section
/-! THE CLASS BUILDS INDEXES -/
theorem bl_more (n : Nat) (x st most : Int32) : ∀ (K : List Nat) (A : b_S), most ≤ nI A.2.1 → (K.foldl (bl_step n x st most) A).1 = A.1 ∧ (K.foldl (bl_step n x st most) A).2.1 = A.2.1 ∧ (K.foldl (bl_step n x st most) A).2.2.1 = A.2.2.1 ∧ A.2.2.2 ≤ (K.foldl (bl_step n x st most) A).2.2.2 := by
  intro K
  induction K with
  | nil => exact fun A _ => ⟨rfl, rfl, rfl, Nat.le_refl _⟩
  | cons k K ih =>
    intro A hA
    have e : (bl_step n x st most A k).1 = A.1 ∧ (bl_step n x st most A k).2.1 = A.2.1 ∧ (bl_step n x st most A k).2.2.1 = A.2.2.1 ∧ A.2.2.2 ≤ (bl_step n x st most A k).2.2.2 := by
      unfold bl_step
      split
      · exact ⟨rfl, rfl, rfl, Nat.le_succ _⟩
      · exact ⟨rfl, rfl, rfl, Nat.le_refl _⟩
    obtain ⟨e1, e2, e3, e4⟩ := e
    obtain ⟨i1, i2, i3, i4⟩ := ih (bl_step n x st most A k) (by rw [e2]; exact hA)
    rw [List.foldl_cons]
    exact ⟨by rw [i1, e1], by rw [i2, e2], by rw [i3, e3], Nat.le_trans e4 i4⟩
theorem bl_skip (n : Nat) (x st most : Int32) : ∀ (K : List Nat) (A : b_S), (∀ k ∈ K, nI k ≤ st) → K.foldl (bl_step n x st most) A = A := by
  intro K
  induction K with
  | nil => exact fun A _ => rfl
  | cons k K ih =>
    intro A hK
    have e : bl_step n x st most A k = A := by
      unfold bl_step
      rw [if_neg]
      rw [decide_eq_false (show ¬ ¬ nI k ≤ st from fun z => z (hK k List.mem_cons_self)), Bool.false_and]
      decide
    rw [List.foldl_cons, e]
    exact ih A (fun j hj => hK j (List.mem_cons_of_mem _ hj))
section CBL
variable {G : k_G} {l : Launch}
theorem O_value (ok : k_ok G l) {a N w c : Nat} {B : Nat × Nat} {h : k_H} {M : s_M} {E : e_S} (O : c_O a B h M E N w) (hc : c < 2 ^ 62) : k_cti (tX8_valueNow G l) [vR (some (a + 1)), vJ (lN c)] h (fun h' v => c_O a B h' M E N w ∧ v = o_told (r_val c (g_n M + 1) E.2.1)) := by
  obtain ⟨Q, S, PS, s, r, p, co⟩ := O
  obtain ⟨h', v, t, s', e, m⟩ := c_E_valueNow ok s hc
  exact ⟨h', v, t, ⟨Q, S, PS, s', rs_sto r s m, p, co_le (co_mo co m) (Nat.le_refl _)⟩, e⟩
theorem C_putNow (ok : k_ok G l) {a N w k : Nat} {B : Nat × Nat} {h : k_H} {M : s_M} {E : e_S} {x f : Int32} (O : c_O a B h M E N w) (hx : s_inB x 0 2 = true) (hk : k < 100) (hf : s_na f) (hlim : e_lim (bl_one (g_n M + 1) x k f E)) :
    k_ctv (tX11_putNow G l) [vR (some a), vI x, vI (nI k), vI f] h (fun h' => c_O a B h' M (bl_one (g_n M + 1) x k f E) N w) := by
  obtain ⟨o14, f0, f1, f2, f3, f4, f5, o11⟩ := O_ob O
  have hn := O_n O
  have hkn : s_na (nI k) := na_100 (by omega)
  refine k_ctv_of (eX11_putNow ok.2 ?_)
  rcases s_in3 hx with rfl | rfl | rfl
  · have e1 : bl_one (g_n M + 1) 0 k f E = e_put (g_n M + 1) (s_cd (-2) f (nI k)) (s_apO 0 0 (nI (g_n M + 1)) (r_val (s_cd (-2) f (nI k)) (g_n M + 1) E.2.1)) E := by
      rw [ap_set]; rfl
    rw [e1] at hlim ⊢
    refine bX11_putNow_0 (fun c => absurd rfl c) (fun _ => bX11_putNow_4 o14 rfl (c_X11_codeOf ok na_m6.2.2.2.2.2.1 hf hkn) ?_)
    rintro _ _ ⟨hh, rfl⟩
    rw [hh]
    refine bX11_putNow_16 (k_is_o o11) (O_alter ok O (s_cd_lt na_m6.2.2.2.2.2.1 hf hkn) hlim) ?_
    rintro h1 ⟨O1, -⟩
    exact bX11_putNow_20 (bX11_putNow_68 ⟨rfl, O1⟩)
  · have e1 : bl_one (g_n M + 1) 1 k f E = e_put (g_n M + 1) (s_cd (-3) f 10000) (s_apO 2 1 (nI (g_n M + 1)) (r_val (s_cd (-3) f 10000) (g_n M + 1) E.2.1)) E := by
      have : some ((r_val (s_cd (-3) f 10000) (g_n M + 1) E.2.1).getD 0 + 1) = s_apO 2 1 (nI (g_n M + 1)) (r_val (s_cd (-3) f 10000) (g_n M + 1) E.2.1) := by
        cases r_val (s_cd (-3) f 10000) (g_n M + 1) E.2.1 with
        | none => exact congrArg some (show (0 : Int32) + 1 = 1 by decide)
        | some v => rfl
      rw [← this]; rfl
    rw [e1] at hlim ⊢
    refine bX11_putNow_0 (fun _ => bX11_putNow_23 (fun c => absurd rfl c) (fun _ => bX11_putNow_28 o14 rfl (c_X11_codeOf_ ok na_m6.2.2.2.2.1 hf) ?_)) (fun c => absurd c (by decide))
    rintro _ _ ⟨hh, rfl⟩
    rw [hh]
    refine bX11_putNow_39 (k_is_o o11) (O_alter ok O (s_cd_lt na_m6.2.2.2.2.1 hf na_m6.2.2.2.2.2.2.2) hlim) ?_
    rintro h1 ⟨O1, -⟩
    exact bX11_putNow_43 (bX11_putNow_68 ⟨rfl, O1⟩)
  · have hnn : s_na (nI (g_n M + 1)) := by
      refine Or.inr (s_nm_of ?_ ?_) <;> rw [nI_toInt (by omega)] <;> omega
    have e1 : bl_one (g_n M + 1) 2 k f E = e_put (g_n M + 1) (s_cd (-4) (nI (g_n M + 1)) (nI k)) (s_apO 0 f (nI (g_n M + 1)) (r_val (s_cd (-4) (nI (g_n M + 1)) (nI k)) (g_n M + 1) E.2.1)) E := by
      rw [ap_set]; rfl
    rw [e1] at hlim ⊢
    refine bX11_putNow_0 (fun _ => bX11_putNow_23 (fun _ => bX11_putNow_46 o14 rfl o11 rfl (c_X11_codeOf ok na_m6.2.2.2.1 hnn hkn) ?_) (fun c => absurd c (by decide))) (fun c => absurd c (by decide))
    rintro _ _ ⟨hh, rfl⟩
    rw [hh]
    refine bX11_putNow_64 (k_is_o o11) (O_alter ok O (s_cd_lt na_m6.2.2.2.1 hnn hkn) hlim) ?_
    rintro h1 ⟨O1, -⟩
    exact bX11_putNow_68 ⟨rfl, O1⟩
theorem bl_one_ex {n : Nat} {x : Int32} {k : Nat} {f : Int32} {E : e_S} : e_ex n E (bl_one (n + 1) x k f E) := by
  unfold bl_one
  split
  · exact ex_put _ _ _ _
  · split <;> exact ex_put _ _ _ _
theorem C_build (ok : k_ok G l) {a N w k : Nat} {B : Nat × Nat} {h : k_H} {M : s_M} {x most : Int32} (W : c_W a B h M N w) (hn : g_n M + 1 < 9000) (hpk : g_pk M) (h0 : g_p0 M) (hrec : ∀ j, j < 100 → ∀ v, r_val (sv_re (nI j)) (g_n M + 1) (g_E M).2.1 = some v → s_na v)
    (hst : s_inB x 0 2 = true → ∀ v, rk_v M (sv_co x) = some v → v = 1000 ∨ v = -1000 ∨ ∃ j, j < 100 ∧ v = nI j)
    (hlim : s_inB x 0 2 = true → s_inB most 1 20 = true → g_ps M (bl_E M x most) ∧ e_lim (bl_E M x most) ∧ g_sp M (bl_E M x most) ≤ k) :
    k_ct (tX11_build G l) [vR (some a), vI x, vI most] h (c_R a B (F_build M x most) x_3 (N + 1 + k) w) := by
  have X1 : ∀ {q : Nat}, q ≠ 0 → F_build M x most = (M, q, 0) → ∀ {h2 : k_H}, c_W a B h2 M N w → c_R a B (F_build M x most) x_3 (N + 1 + k) w (k_sk h2 1 6) (.inr (x_3 q)) := fun {q} hk hF {h2} W => by
    rw [hF]
    refine ⟨W_le (W_sk W) (by omega), ?_⟩
    show _ = if _ = 0 then _ else _
    rw [if_neg hk]
  refine eX11_build ok.2 ?_
  cases hin : s_inB x 0 2 with
  | false =>
    refine bX11_build_0x (x_X11_requireIndex ok (in3_not hin)) ?_
    rintro _ rfl
    exact X1 (q := 1) (by decide) (by unfold F_build; rw [if_pos hin]) W
  | true =>
    obtain ⟨na, nn, nx, hx⟩ := s_na_m2 hin
    refine bX11_build_0 (c_X11_requireIndex ok hx) ?_
    rintro _ hh
    rw [hh]
    have bad : s_inB most 1 20 = false → k_X (jX11_build G l h) h 15 [] [] (c_R a B (F_build M x most) x_3 (N + 1 + k) w) := fun hc =>
      bX11_build_15 (X1 (q := 2) (by decide) (by unfold F_build; rw [if_neg (by rw [hin]; decide), if_pos hc]) W)
    refine bX11_build_4 (fun c => bad ?_) (fun c1 => bX11_build_9 (fun c2 => ?_) (fun c => bad ?_))
    · unfold s_inB; rw [decide_eq_false (by simpa using c), Bool.false_and]
    · have hm : s_inB most 1 20 = true := by unfold s_inB; rw [decide_eq_true c1, decide_eq_true (Int32.not_lt.mpr c2)]; rfl
      obtain ⟨hm1, hm2, hm3⟩ := s_inA (a := 1) (m := 20) (by decide) (by decide) hm
      obtain ⟨g1, g2, g3⟩ := hlim hin hm
      obtain ⟨o14, f0, f1, f2, f3, f4, f5, o11⟩ := W_ob W
      have hco := s_cd_lt na_m6.1 nx na_m6.2.2.2.2.2.2.2
      refine bX11_build_26 o14 rfl (c_X11_codeOf_ ok na_m6.1 nx) ?_
      rintro _ _ ⟨hh, rfl⟩
      rw [hh]
      refine bX11_build_36 (k_is_o o11) (W_value ok W (by omega)) ?_
      rintro h1 _ ⟨W1, rfl, -, -⟩
      have est : o_told (rk_v M (s_cd (-6) x 10000)) = bl_st M x := rfl
      rw [est]
      refine bX11_build_39 (c_X11_indexGoesTo ok) ?_
      rintro _ _ ⟨hh, rfl⟩
      rw [hh]
      have hon : ((if bl_st M x = -2147483648 then (1000 : Int32) else bl_st M x) = 1000) ↔ (bl_st M x = -2147483648 ∨ bl_st M x = 1000) := by
        by_cases c : bl_st M x = -2147483648
        · rw [if_pos c]; exact ⟨fun _ => Or.inl c, fun _ => rfl⟩
        · rw [if_neg c]; exact ⟨fun z => Or.inr z, fun z => by rcases z with z | z; exact absurd z c; exact z⟩
      refine bX11_build_42 (fun c => ?_) (fun c => bX11_build_50 (X1 (q := 3) (by decide) (by unfold F_build; rw [if_neg (by rw [hin]; decide), if_neg (by rw [hm]; decide), if_pos (hon.mp c)]) W1))
      have c' : ¬ (bl_st M x = -2147483648 ∨ bl_st M x = 1000) := fun z => c (hon.mpr z)
      rw [if_neg (fun z => c' (Or.inl z))]
      have hF : F_build M x most = (g_cm M (bl_E M x most), 0, nI (bl_run M x most).2.1) := by
        unfold F_build; rw [if_neg (by rw [hin]; decide), if_neg (by rw [hm]; decide), if_neg c']
      -- where it starts
      have hstart : ∃ s0 : Nat, s0 ≤ 100 ∧ (if (bl_st M x + 1) < 0 then (0 : Int32) else (bl_st M x + 1)) = nI s0 ∧ (∀ j, j < 100 → (nI j ≤ bl_st M x ↔ j < s0)) := by
        have hv : bl_st M x = -1000 ∨ ∃ j, j < 100 ∧ bl_st M x = nI j := by
          have e : bl_st M x = o_told (rk_v M (sv_co x)) := rfl
          cases hr : rk_v M (sv_co x) with
          | none => rw [hr] at e; exact absurd (Or.inl e) c'
          | some v =>
            rw [hr] at e
            have e : bl_st M x = v := e
            rcases hst hin v hr with z | z | ⟨j, hj, z⟩
            · exact absurd (Or.inr (by rw [e, z])) c'
            · exact Or.inl (by rw [e, z])
            · exact Or.inr ⟨j, hj, by rw [e, z]⟩
        rcases hv with e | ⟨j, hj, e⟩
        · refine ⟨0, by omega, by rw [e]; decide, fun i hi => ?_⟩
          rw [e]
          constructor
          · intro z
            have z1 := Int32.le_iff_toInt_le.mp z
            rw [nI_toInt (by omega)] at z1
            have e1 : (-1000 : Int32).toInt = -1000 := by decide
            omega
          · intro z; omega
        · refine ⟨j + 1, by omega, ?_, fun i hi => ?_⟩
          · rw [e, nI_1, if_neg]
            intro z
            have := (nI_ltI (a := j + 1) (b := 0) (by omega) (by omega)).mp z
            omega
          · rw [e, nI_leI (by omega) (by omega)]
            omega
      obtain ⟨s0, hs0, es0, hs1⟩ := hstart
      obtain ⟨o14, f0, f1, f2, f3, f4, f5, o11⟩ := W_ob W1
      have hbb : k_cti (tX11_buildBehind G l) [vR (some a), vI x, vI (bl_st M x), vI most] h1 (fun h' v => c_W a B h' (g_cm M (bl_E M x most)) (N + g_sp M (bl_E M x most)) w ∧ v = nI (bl_run M x most).2.1) := by
        refine k_cti_of (eX11_buildBehind ok.2 (bX11_buildBehind_0 o14 rfl (k_is_o o11) (O_open ok W1 (by omega)) ?_))
        rintro h2 ⟨O2, -⟩
        refine bX11_buildBehind_8 ?_
        rw [es0]
        -- the end
        have fin : ∀ (hh : k_H) (x6 : Int32) (E : e_S) (b : Nat) (la : Int32), c_O a B hh M E N w → e_ex (g_n M) (g_E M) E → (bl_run M x most).1 = E → (bl_run M x most).2.1 = b → (bl_run M x most).2.2.1 = la → (x6 = 0 ↔ (bl_run M x most).2.2.2 = 0) →
            k_X (jX11_buildBehind G l h1) hh 101 [(0, vR (some a)), (1, vI x), (4, vI (nI b)), (5, vI la), (6, vI x6)] [] (q_i (fun h' v => c_W a B h' (g_cm M (bl_E M x most)) (N + g_sp M (bl_E M x most)) w ∧ v = nI (bl_run M x most).2.1)) := by
          intro hh x6 E b la O3 hex e1 e2 e3 e4
          obtain ⟨o14, f0, f1, f2, f3, f4, f5, o11⟩ := O_ob O3
          refine bX11_buildBehind_101 o14 rfl (c_X11_codeOf_ ok na_m6.1 nx) ?_
          rintro _ _ ⟨hh3, rfl⟩
          rw [hh3]
          have put : ∀ v : Int32, v = (if 0 < (bl_run M x most).2.2.2 then (bl_run M x most).2.2.1 else 1000) → k_X (jX11_buildBehind G l h1) hh 125 [(0, vR (some a)), (4, vI (nI b))] [vI v, vJ (lN (s_cd (-6) x 10000)), vI 0, vR (some (a + 1))] (q_i (fun h' v => c_W a B h' (g_cm M (bl_E M x most)) (N + g_sp M (bl_E M x most)) w ∧ v = nI (bl_run M x most).2.1)) := fun v hv => by
            have eE : bl_E M x most = e_put (g_n M + 1) (s_cd (-6) x 10000) (s_apO 0 v (nI (g_n M + 1)) (r_val (s_cd (-6) x 10000) (g_n M + 1) E.2.1)) E := by
              unfold bl_E
              rw [← hv, e1, ap_set]
              rfl
            refine bX11_buildBehind_125 (k_is_o o11) (O_alter ok O3 hco (by rw [← eE]; exact g2)) ?_
            rintro h4 ⟨O4, -⟩
            rw [← eE] at O4
            obtain ⟨o14, -⟩ := O_ob O4
            refine bX11_buildBehind_128 (k_is_o o14) (O_close ok O4 ?_ g2 hpk h0 g1) ?_
            · rw [eE]; exact ex_trans hex (ex_put _ _ _ _)
            rintro h5 ⟨W5, -⟩
            exact bX11_buildBehind_132 ⟨_, rfl, W5, by rw [e2]⟩
          refine bX11_buildBehind_112 (fun c => bX11_buildBehind_122 (put 1000 ?_)) (fun c => bX11_buildBehind_117 (put la ?_))
          · rw [e4.mp c, if_neg (Nat.lt_irrefl 0)]
          · rw [if_pos (Nat.pos_of_ne_zero (fun z => c (e4.mpr z))), e3]
        -- the loop
        have key : ∀ (d j : Nat) (hh : k_H) (A : b_S), 100 - j = d → s0 ≤ j → j ≤ 100 → (List.range' 0 j).foldl (bl_step (g_n M + 1) x (bl_st M x) most) (g_E M, 0, bl_st M x, 0) = A → A.2.2.2 = 0 → A.2.1 ≤ most.toInt.toNat → (∀ i, i < 100 → r_val (sv_re (nI i)) (g_n M + 1) A.1.2.1 = r_val (sv_re (nI i)) (g_n M + 1) (g_E M).2.1) → e_ex (g_n M) (g_E M) A.1 → c_O a B hh M A.1 N w →
            k_X (jX11_buildBehind G l h1) hh 26 [(0, vR (some a)), (1, vI x), (3, vI most), (4, vI (nI A.2.1)), (5, vI A.2.2.1), (6, vI 0), (7, vI (nI j))] [] (q_i (fun h' v => c_W a B h' (g_cm M (bl_E M x most)) (N + g_sp M (bl_E M x most)) w ∧ v = nI (bl_run M x most).2.1)) := by
          intro d
          induction d with
          | zero =>
            intro j hh A hd hj1 hj2 hA hm0 hmo hr hex O3
            have ej : j = 100 := by omega
            subst ej
            refine bX11_buildBehind_26 (fun _ => ?_) (fun c => absurd (by decide) c)
            have hA2 : bl_run M x most = A := hA
            exact fin hh 0 _ _ _ O3 hex (by rw [hA2]) (by rw [hA2]) (by rw [hA2]) (by rw [hA2]; exact ⟨fun _ => hm0, fun _ => rfl⟩)
          | succ d ih =>
            intro j hh A hd hj1 hj2 hA hm0 hmo hr hex O3
            have hj100 : j < 100 := by omega
            have hnj : s_na (nI j) := na_100 (by omega)
            have hcr := s_cd_lt na_m6.2.2.2.2.2.2.1 hnj na_m6.2.2.2.2.2.2.2
            have hsplit : List.range' 0 100 = List.range' 0 (j + 1) ++ List.range' (j + 1) (100 - (j + 1)) := by
              have := List.range'_append (s := 0) (m := j + 1) (n := 100 - (j + 1)) (step := 1)
              rw [show j + 1 + (100 - (j + 1)) = 100 by omega, Nat.one_mul, Nat.zero_add] at this
              exact this.symm
            have hstep : (List.range' 0 (j + 1)).foldl (bl_step (g_n M + 1) x (bl_st M x) most) (g_E M, 0, bl_st M x, 0) = bl_step (g_n M + 1) x (bl_st M x) most A j := by
              rw [List.range'_concat, List.foldl_append, hA]
              show bl_step _ _ _ _ A (0 + 1 * j) = _
              rw [Nat.one_mul, Nat.zero_add]
            have hrun : bl_run M x most = (List.range' (j + 1) (100 - (j + 1))).foldl (bl_step (g_n M + 1) x (bl_st M x) most) (bl_step (g_n M + 1) x (bl_st M x) most A j) := by
              unfold bl_run
              rw [hsplit, List.foldl_append, hstep]
            have hcond : decide (¬ nI j ≤ bl_st M x) = true := decide_eq_true (fun z => by have := (hs1 j hj100).mp z; omega)
            obtain ⟨o14, f0, f1, f2, f3, f4, f5, o11⟩ := O_ob O3
            refine bX11_buildBehind_26 (fun c => absurd ((nI_ltI (a := 99) (by omega) (by omega)).mp c) (by omega)) (fun _ => bX11_buildBehind_33 (fun c => absurd rfl c) (fun _ => bX11_buildBehind_38 o14 rfl (c_X11_codeOf_ ok na_m6.2.2.2.2.2.2.1 hnj) ?_))
            rintro _ _ ⟨hh3, rfl⟩
            rw [hh3]
            refine bX11_buildBehind_48 (k_is_o o11) (O_value ok O3 (by omega)) ?_
            rintro h3 _ ⟨O4, rfl⟩
            have esr : r_val (s_cd (-1) (nI j) 10000) (g_n M + 1) A.1.2.1 = r_val (sv_re (nI j)) (g_n M + 1) A.1.2.1 := rfl
            rw [esr]
            cases hv : r_val (sv_re (nI j)) (g_n M + 1) A.1.2.1 with
            | none =>
              have hs2 : bl_step (g_n M + 1) x (bl_st M x) most A j = A := by
                unfold bl_step
                rw [hv, Option.isSome_none, Bool.and_false, if_neg (by decide)]
              rw [hs2] at hstep
              refine bX11_buildBehind_51 (fun _ => bX11_buildBehind_72 (fun _ => bX11_buildBehind_95 ?_) (fun c => absurd rfl c)) (fun c => absurd rfl c)
              rw [nI_1]
              exact ih (j + 1) h3 A (by omega) (by omega) (by omega) hstep hm0 hmo hr hex O4
            | some f =>
              have hfna : s_na f := hrec j hj100 f (by rw [← hr j hj100, hv])
              have hfne := na_ne hfna
              have e5 : o_told (some f) = f := rfl
              rw [e5]
              refine bX11_buildBehind_51 (fun c => absurd c hfne) (fun _ => bX11_buildBehind_60 (fun c => ?_) (fun c => bX11_buildBehind_66 (bX11_buildBehind_95 ?_)))
              · have hlt : A.2.1 < most.toInt.toNat := by
                  by_cases e : A.2.1 = most.toInt.toNat
                  · exact absurd (by rw [e]; exact hm1.symm) c
                  · omega
                have hs2 : bl_step (g_n M + 1) x (bl_st M x) most A j = (bl_one (g_n M + 1) x j f A.1, A.2.1 + 1, nI j, A.2.2.2) := by
                  unfold bl_step
                  rw [hv, Option.isSome_some, Bool.and_true, if_pos hcond, if_neg]
                  · rfl
                  · intro z
                    rw [hm1] at z
                    have := (nI_leI (by omega) (by omega)).mp z
                    omega
                have le1 : e_lim (bl_one (g_n M + 1) x j f A.1) := by
                  have h9 := bl_run_le (g_n M + 1) x (bl_st M x) most (List.range' (j + 1) (100 - (j + 1))) (bl_step (g_n M + 1) x (bl_st M x) most A j)
                  rw [← hrun, hs2] at h9
                  exact e_lim_le g2 (e_le_trans h9 (e_le_put _ _ _ _))
                obtain ⟨o14, -⟩ := O_ob O4
                refine bX11_buildBehind_72 (fun c2 => absurd c2 hfne) (fun _ => bX11_buildBehind_79 (k_is_o o14) (C_putNow ok O4 hin hj100 hfna le1) ?_)
                rintro h4 O5
                refine bX11_buildBehind_88 (bX11_buildBehind_95 ?_)
                rw [nI_1, nI_1]
                rw [hs2] at hstep
                exact ih (j + 1) h4 _ (by omega) (by omega) (by omega) hstep hm0 (by show A.2.1 + 1 ≤ _; omega) (fun i hi => by
                  show r_val _ _ (bl_one (g_n M + 1) x j f A.1).2.1 = _
                  rw [bl_one_rec hfna hj100 hn i hi]
                  exact hr i hi) (ex_trans hex bl_one_ex) O5
              · have hle : most ≤ nI A.2.1 := by rw [c]; exact Int32.le_refl _
                have hs2 : bl_step (g_n M + 1) x (bl_st M x) most A j = (A.1, A.2.1, A.2.2.1, A.2.2.2 + 1) := by
                  unfold bl_step
                  rw [hv, Option.isSome_some, Bool.and_true, if_pos hcond, if_pos hle]
                obtain ⟨m1, m2, m3, m4⟩ := bl_more (g_n M + 1) x (bl_st M x) most (List.range' (j + 1) (100 - (j + 1))) (bl_step (g_n M + 1) x (bl_st M x) most A j) (by rw [hs2]; exact hle)
                rw [← hrun] at m1 m2 m3 m4
                rw [hs2] at m1 m2 m3 m4
                have F := fin h3 1 _ _ _ O4 hex m1 m2 m3 ⟨fun z => absurd z (by decide), fun z => by
                  have m4 : A.2.2.2 + 1 ≤ (bl_run M x most).2.2.2 := m4
                  omega⟩
                refine bX11_buildBehind_26 (fun _ => F) (fun _ => bX11_buildBehind_33 (fun _ => F) (fun c2 => absurd c2 (by decide)))
        refine key (100 - s0) s0 h2 (g_E M, 0, bl_st M x, 0) rfl (Nat.le_refl _) hs0 ?_ rfl (Nat.zero_le _) (fun _ _ => rfl) (ex_refl _ _) O2
        refine bl_skip _ _ _ _ _ _ (fun j hj => ?_)
        have hj2 := List.mem_range'_1.mp hj
        exact (hs1 j (by omega)).mpr (by omega)
      refine bX11_build_61 (k_is_o o14) hbb ?_
      rintro h2 _ ⟨W2, rfl⟩
      exact bX11_build_68 (R_ok (W_le W2 (by omega)) hF)
    · unfold s_inB; rw [decide_eq_false (show ¬ ¬ (20 : Int32) < most from fun z => c (Int32.not_lt.mp z)), Bool.and_false]
end CBL
end
