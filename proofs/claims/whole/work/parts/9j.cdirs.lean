/-! THE CLASS'S DIRECTORIES -/
def c_dp (a : Nat) (h : k_H) (D : List s_D) (da : Nat → Nat) : Prop := (∃ cap : Nat, h.1 (a + 13) = some (k_l (D.map (fun x => da x.1)) cap)) ∧ (∀ x ∈ D, h.1 (da x.1) = some (k_o 5 [vI (nI x.1), vI (nI x.2.2.2), vR (x.2.1.map da), vI (nI x.2.2.1)])) ∧ ∀ x ∈ D, ∀ y ∈ D, da x.1 = da y.1 → x.1 = y.1
theorem dr_dp {a : Nat} {h : k_H} {D : List s_D} (r : c_dr a h D) : ∃ da, c_dp a h D da := by
  obtain ⟨da, cap, b1, b2, b3⟩ := r
  exact ⟨da, ⟨cap, b1⟩, b2, b3⟩
theorem dp_dr {a : Nat} {h : k_H} {D : List s_D} {da : Nat → Nat} (p : c_dp a h D da) : c_dr a h D := by
  obtain ⟨⟨cap, b1⟩, b2, b3⟩ := p
  exact ⟨da, cap, b1, b2, b3⟩
theorem dp_fr {a : Nat} {K : List Nat} {A : Nat → Prop} {h h' : k_H} {D : List s_D} {da : Nat → Nat} (b : c_dp a h D da) (m : k_fr K A h h') (hK : 5 ∉ K) (hA : ¬ A (a + 13)) (hO : ∀ q fs, h.1 q = some (k_o 5 fs) → ¬ A q) : c_dp a h' D da := by
  obtain ⟨⟨cap, b1⟩, b2, b3⟩ := b
  exact ⟨⟨cap, m _ _ b1 hA (fun ci fs e => by cases e)⟩, fun x hx => m _ _ (b2 x hx) (hO _ _ (b2 x hx)) (fun ci fs e => by cases e; exact hK), b3⟩
theorem W_dp {a N w : Nat} {B : Nat × Nat} {h : k_H} {M : s_M} (W : c_W a B h M N w) : ∃ da, c_dp a h (g_DS M).1 da := by
  obtain ⟨Q, S, PS, s, r, p, co⟩ := W
  exact dr_dp r.2.2.2.2.2.1
def d_ok (D : List s_D × Nat) : Prop := d_wf D ∧ D.2 ≤ 1024 ∧ (∀ d ∈ D.1, d.1 < D.2) ∧ D.1.length ≤ 1024
theorem d_par {D : List s_D × Nat} (w : d_wf D) {y : s_D} (hy : y ∈ D.1) {q : Nat} (hq : y.2.1 = some q) : ∃ e ∈ D.1, e.1 = q := by
  by_cases h0 : y.1 = 0
  · rw [d_root w hy h0] at hq; cases hq
  · obtain ⟨p, hp, e⟩ := w.2.2.1 y hy h0
    rw [hq] at hp
    cases hp
    exact e
theorem find_cg {A : Type} {p q : A → Bool} : ∀ {l : List A}, (∀ x ∈ l, p x = q x) → l.find? p = l.find? q := by
  intro l
  induction l with
  | nil => exact fun _ => rfl
  | cons x l ih =>
    intro h
    rw [List.find?_cons, List.find?_cons, h x List.mem_cons_self, ih (fun y hy => h y (List.mem_cons_of_mem _ hy))]
def d_ch (D : List s_D) (p : Nat) (nm : Int32) : Option s_D := D.find? (fun d => decide (d.2.1 = some p) && decide (nI d.2.2.1 = nm))
theorem d_nm_ch {D : List s_D × Nat} (ok : d_ok D) {p : Nat} (hp : ∃ e ∈ D.1, e.1 = p) (nm : Int32) : d_nm D.1 (nI p) nm = match d_ch D.1 p nm with | some d => nI d.1 | none => -2147483648 := by
  obtain ⟨w, h1, h2, h3⟩ := ok
  unfold d_nm d_ch
  have hpl : p < 2 ^ 31 := by obtain ⟨e, he, rfl⟩ := hp; have := h2 e he; omega
  have e : D.1.find? (fun d => !(decide (d.1 = 0)) && decide (m_par d.2.1 = nI p) && decide (nI d.2.2.1 = nm)) = D.1.find? (fun d => decide (d.2.1 = some p) && decide (nI d.2.2.1 = nm)) := by
    refine find_cg fun d hd => ?_
    congr 1
    by_cases h0 : d.1 = 0
    · rw [d_root w hd h0]
      rfl
    · rw [decide_eq_false h0, Bool.not_false, Bool.true_and]
      obtain ⟨q, hq, e, he, e2⟩ := w.2.2.1 d hd h0
      rw [hq]
      show decide (nI q = nI p) = _
      have := h2 e he
      refine decide_eq_decide.mpr ?_
      rw [nI_eq (by omega) hpl]
      exact ⟨fun z => by rw [z], fun z => by cases z; rfl⟩
  rw [e]
  rfl
theorem d_ch_mem {D : List s_D} {p : Nat} {nm : Int32} {d : s_D} (h : d_ch D p nm = some d) : d ∈ D := List.mem_of_find?_eq_some h
theorem d_is_find {D : List s_D × Nat} {x : Int32} : d_is D x = (D.1.find? (fun d => decide (nI d.1 = x))).isSome := by
  unfold d_is
  rw [Bool.eq_iff_iff, List.find?_isSome, List.any_eq_true]
theorem in9 {x : Int32} (h : s_inB x 0 9 = true) : 0 ≤ x ∧ x ≤ 9 := by
  unfold s_inB at h
  simp only [Bool.and_eq_true, decide_eq_true_eq, Int32.not_lt] at h
  exact h
theorem in9_not {x : Int32} (h : s_inB x 0 9 = false) : ¬ (0 ≤ x ∧ x ≤ 9) := fun z => by
  unfold s_inB at h
  rw [decide_eq_true (Int32.not_lt.mpr z.1), decide_eq_true (Int32.not_lt.mpr z.2)] at h
  cases h
section CDI
variable {G : k_G} {l : Launch}
theorem c_findDir (ok : k_ok G l) {a : Nat} {h : k_H} {fs : List k_V} {D : List s_D} {da : Nat → Nat} {x : Int32} (o14 : h.1 a = some (k_o 14 fs)) (g5 : fs[5]? = some (vR (some (a + 13)))) (dp : c_dp a h D da) (hl : D.length < 2 ^ 20) :
    k_ctr (tX11_findDirectory G l) [vR (some a), vI x] h (fun h' v => h' = h ∧ v = (D.find? (fun d => decide (nI d.1 = x))).map (fun d => da d.1)) := by
  obtain ⟨⟨cap, b1⟩, b2, b3⟩ := dp
  refine k_ctr_of (eX11_findDirectory ok.2 (bX11_findDirectory_0 ?_))
  have key : ∀ (todo pre : List s_D), D = pre ++ todo → pre.find? (fun d => decide (nI d.1 = x)) = none → k_X (jX11_findDirectory G l h) h 2 [(0, vR (some a)), (1, vI x), (2, vI (nI pre.length))] [] (q_r (fun h' v => h' = h ∧ v = (D.find? (fun d => decide (nI d.1 = x))).map (fun d => da d.1))) := by
    intro todo
    induction todo with
    | nil =>
      intro pre hp hf
      rw [List.append_nil] at hp
      have hpl : D.length = pre.length := by rw [hp]
      refine bX11_findDirectory_2 o14 g5 (Or.inr ⟨rfl, _, _, b1⟩) (c_size ok b1) ?_
      rintro _ _ ⟨hh, rfl⟩
      rw [hh, List.length_map]
      refine bX11_findDirectory_10 (fun _ => bX11_findDirectory_41 ⟨_, rfl, rfl, ?_⟩) (fun c => absurd (nI_le (Nat.le_of_eq hpl) (by omega)) c)
      rw [hp, hf]; rfl
    | cons y todo ih =>
      intro pre hp hf
      have hlt : pre.length < D.length := by rw [hp, List.length_append, List.length_cons]; omega
      have hy : (D.map (fun x => da x.1))[pre.length]? = some (da y.1) := by rw [hp]; simp
      have hym : y ∈ D := by rw [hp]; simp
      refine bX11_findDirectory_2 o14 g5 (Or.inr ⟨rfl, _, _, b1⟩) (c_size ok b1) ?_
      rintro _ _ ⟨hh, rfl⟩
      rw [hh, List.length_map]
      refine bX11_findDirectory_10 (fun c => absurd c (nI_ge hlt (by omega))) (fun _ => ?_)
      refine bX11_findDirectory_13 o14 g5 (Or.inr ⟨rfl, _, _, b1⟩) (c_get ok b1 hy) ?_
      rintro _ _ ⟨hh, rfl⟩
      rw [hh]
      refine bX11_findDirectory_21 (b2 y hym) rfl (fun c => bX11_findDirectory_35 ?_) (fun c => bX11_findDirectory_33 ⟨_, rfl, rfl, ?_⟩)
      · rw [nI_1]
        have := ih (pre ++ [y]) (by rw [hp]; simp) (by rw [List.find?_append, hf]; simp [c])
        rw [List.length_append, List.length_singleton] at this
        exact this
      · rw [hp, List.find?_append, hf, Option.none_or, List.find?_cons_of_pos (by simp [c])]
        rfl
  exact key D [] rfl rfl
theorem c_dirAt (ok : k_ok G l) {a : Nat} {h : k_H} {fs : List k_V} {D : List s_D × Nat} {da : Nat → Nat} {x : Int32} (o14 : h.1 a = some (k_o 14 fs)) (g5 : fs[5]? = some (vR (some (a + 13)))) (dp : c_dp a h D.1 da) (hd : d_ok D) (hx : d_is D x = true) :
    ∃ d ∈ D.1, x = nI d.1 ∧ t_of x = d.1 ∧ D.1.find? (fun d => decide (nI d.1 = x)) = some d ∧ k_ctr (tX11_directoryAt G l) [vR (some a), vI x] h (fun h' v => h' = h ∧ v = some (da d.1)) := by
  rw [d_is_find] at hx
  obtain ⟨d, hf⟩ := Option.isSome_iff_exists.mp hx
  have hm := List.mem_of_find?_eq_some hf
  have he : nI d.1 = x := by have := List.find?_some hf; simpa using this
  obtain ⟨w, h1, h2, h3⟩ := hd
  have hlt := h2 d hm
  refine ⟨d, hm, he.symm, ?_, hf, ?_⟩
  · rw [← he]; unfold t_of; rw [nI_toInt (by omega)]; omega
  refine k_ctr_of (eX11_directoryAt ok.2 (bX11_directoryAt_0 (k_is_o o14) (c_findDir ok o14 g5 dp (by omega)) ?_))
  rintro _ _ ⟨hh, rfl⟩
  rw [hh, hf]
  exact bX11_directoryAt_5 (fun e => by cases e) (fun a' _ => bX11_directoryAt_21 ⟨_, rfl, rfl, rfl⟩)
theorem c_dirAtX (ok : k_ok G l) {a : Nat} {h : k_H} {fs : List k_V} {D : List s_D × Nat} {da : Nat → Nat} {x : Int32} (o14 : h.1 a = some (k_o 14 fs)) (g5 : fs[5]? = some (vR (some (a + 13)))) (dp : c_dp a h D.1 da) (hd : d_ok D) (hx : d_is D x = false) :
    k_ctx (tX11_directoryAt G l) [vR (some a), vI x] h x_IO (fun h' => h' = k_sk h 1 6) := by
  rw [d_is_find] at hx
  obtain ⟨w, h1, h2, h3⟩ := hd
  have hf : D.1.find? (fun d => decide (nI d.1 = x)) = none := by
    cases hg : D.1.find? (fun d => decide (nI d.1 = x)) with
    | none => rfl
    | some d => rw [hg] at hx; cases hx
  refine k_ctx_of (eX11_directoryAt ok.2 (bX11_directoryAt_0 (k_is_o o14) (c_findDir ok o14 g5 dp (by omega)) ?_))
  rintro _ _ ⟨hh, rfl⟩
  rw [hh, hf]
  exact bX11_directoryAt_5 (fun _ => bX11_directoryAt_10 ⟨rfl, rfl⟩) (fun a' e => by cases e)
theorem c_childOf (ok : k_ok G l) {a p : Nat} {h : k_H} {fs : List k_V} {D : List s_D × Nat} {da : Nat → Nat} {nm : Int32} (o14 : h.1 a = some (k_o 14 fs)) (g5 : fs[5]? = some (vR (some (a + 13)))) (dp : c_dp a h D.1 da) (hd : d_ok D) (hp : ∃ e ∈ D.1, e.1 = p) :
    k_ctr (tX11_childOf G l) [vR (some a), vR (some (da p)), vI nm] h (fun h' v => h' = h ∧ v = (d_ch D.1 p nm).map (fun d => da d.1)) := by
  obtain ⟨⟨cap, b1⟩, b2, b3⟩ := dp
  obtain ⟨w, h1, h2, h3⟩ := hd
  have ptr : ∀ y ∈ D.1, (y.2.1.map da = some (da p) ↔ y.2.1 = some p) := fun y hy => by
    constructor
    · intro e
      cases hq : y.2.1 with
      | none => rw [hq] at e; cases e
      | some q =>
        rw [hq] at e
        have e2 : da q = da p := by simpa using e
        obtain ⟨u, hu, rfl⟩ := d_par w hy hq
        obtain ⟨v, hv, rfl⟩ := hp
        rw [b3 u hu v hv e2]
    · intro e; rw [e]; rfl
  refine k_ctr_of (eX11_childOf ok.2 (bX11_childOf_0 ?_))
  have key : ∀ (todo pre : List s_D), D.1 = pre ++ todo → d_ch pre p nm = none → k_X (jX11_childOf G l h) h 2 [(0, vR (some a)), (1, vR (some (da p))), (2, vI nm), (3, vI (nI pre.length))] [] (q_r (fun h' v => h' = h ∧ v = (d_ch D.1 p nm).map (fun d => da d.1))) := by
    intro todo
    induction todo with
    | nil =>
      intro pre hpp hf
      rw [List.append_nil] at hpp
      have hpl : D.1.length = pre.length := by rw [hpp]
      refine bX11_childOf_2 o14 g5 (Or.inr ⟨rfl, _, _, b1⟩) (c_size ok b1) ?_
      rintro _ _ ⟨hh, rfl⟩
      rw [hh, List.length_map]
      refine bX11_childOf_10 (fun _ => bX11_childOf_53 ⟨_, rfl, rfl, ?_⟩) (fun c => absurd (nI_le (Nat.le_of_eq hpl) (by omega)) c)
      rw [hpp, hf]; rfl
    | cons y todo ih =>
      intro pre hpp hf
      have hlt : pre.length < D.1.length := by rw [hpp, List.length_append, List.length_cons]; omega
      have hy : (D.1.map (fun x => da x.1))[pre.length]? = some (da y.1) := by rw [hpp]; simp
      have hym : y ∈ D.1 := by rw [hpp]; simp
      refine bX11_childOf_2 o14 g5 (Or.inr ⟨rfl, _, _, b1⟩) (c_size ok b1) ?_
      rintro _ _ ⟨hh, rfl⟩
      rw [hh, List.length_map]
      refine bX11_childOf_10 (fun c => absurd c (nI_ge hlt (by omega))) (fun _ => ?_)
      refine bX11_childOf_13 o14 g5 (Or.inr ⟨rfl, _, _, b1⟩) (c_get ok b1 hy) ?_
      rintro _ _ ⟨hh, rfl⟩
      rw [hh]
      have next : (decide (y.2.1 = some p) && decide (nI y.2.2.1 = nm)) = false → k_X (jX11_childOf G l h) h 47 [(0, vR (some a)), (1, vR (some (da p))), (2, vI nm), (3, vI (nI pre.length))] [] (q_r (fun h' v => h' = h ∧ v = (d_ch D.1 p nm).map (fun d => da d.1))) := fun hc => by
        refine bX11_childOf_47 ?_
        rw [nI_1]
        have hf2 : d_ch (pre ++ [y]) p nm = none := by
          unfold d_ch at hf ⊢
          rw [List.find?_append, hf, Option.none_or, List.find?_cons_of_neg (by rw [hc]; decide)]
          rfl
        have := ih (pre ++ [y]) (by rw [hpp]; simp) hf2
        rw [List.length_append, List.length_singleton] at this
        exact this
      refine bX11_childOf_21 (b2 y hym) rfl (fun c => next ?_) (fun c => ?_)
      · rw [decide_eq_false (fun z => c ((ptr y hym).mpr z)), Bool.false_and]
      · have c' := (ptr y hym).mp c
        refine bX11_childOf_35 (b2 y hym) rfl (fun c2 => next ?_) (fun c2 => bX11_childOf_44 ⟨_, rfl, rfl, ?_⟩)
        · rw [decide_eq_false c2, Bool.and_false]
        · unfold d_ch at hf ⊢
          rw [hpp, List.find?_append, hf, Option.none_or, List.find?_cons_of_pos (by rw [decide_eq_true c', decide_eq_true c2]; rfl)]
          rfl
  exact key D.1 [] rfl rfl
theorem c_isWithin2 (ok : k_ok G l) {o : Nat} {h : k_H} {D : List s_D × Nat} {da : Nat → Nat} (b2 : ∀ x ∈ D.1, h.1 (da x.1) = some (k_o 5 [vI (nI x.1), vI (nI x.2.2.2), vR (x.2.1.map da), vI (nI x.2.2.1)])) (b3 : ∀ x ∈ D.1, ∀ y ∈ D.1, da x.1 = da y.1 → x.1 = y.1) (hd : d_ok D) (ho : ∃ e ∈ D.1, e.1 = o) {d0 : s_D} (hd0 : d0 ∈ D.1) :
    k_cti (tX11_isWithin G l) [vR (some (da d0.1)), vR (some (da o))] h (fun h' v => h' = h ∧ v = kB (d_bel D.1 d0.1 o)) := by
  obtain ⟨w, h1, h2, h3⟩ := hd
  obtain ⟨rk, hrk⟩ := w.2.2.2.1
  refine k_cti_of (eX11_isWithin ok.2 (bX11_isWithin_0 ?_))
  have key : ∀ (n : Nat) (d : s_D), d ∈ D.1 → rk d.1 ≤ n → d_bel D.1 d0.1 o = d_bel D.1 d.1 o → k_X (jX11_isWithin G l h) h 2 [(1, vR (some (da o))), (2, vR (some (da d.1)))] [] (q_i (fun h' v => h' = h ∧ v = kB (d_bel D.1 d0.1 o))) := by
    intro n
    induction n with
    | zero =>
      intro d hm hr hb
      refine bX11_isWithin_2 (fun e => by cases e) (fun _ _ => bX11_isWithin_6 (fun c => ?_) (fun c => ?_))
      · have hne : ¬ d.1 = o := fun z => c (by rw [z])
        refine bX11_isWithin_13 (b2 d hm) rfl ?_
        cases hq : d.2.1 with
        | none =>
          refine bX11_isWithin_2 (fun _ => bX11_isWithin_21 ⟨_, rfl, rfl, ?_⟩) (fun a e => by cases e)
          rw [hb, d_bel_none hne (by rw [d_pa_of w.1 hm]; exact hq)]; rfl
        | some p =>
          have := hrk d hm p hq
          omega
      · obtain ⟨e, he, rfl⟩ := ho
        have : d.1 = e.1 := b3 d hm e he (by simpa using c)
        refine bX11_isWithin_11 ⟨_, rfl, rfl, ?_⟩
        rw [hb, this, d_bel_self]; rfl
    | succ n ih =>
      intro d hm hr hb
      refine bX11_isWithin_2 (fun e => by cases e) (fun _ _ => bX11_isWithin_6 (fun c => ?_) (fun c => ?_))
      · have hne : ¬ d.1 = o := fun z => c (by rw [z])
        refine bX11_isWithin_13 (b2 d hm) rfl ?_
        cases hq : d.2.1 with
        | none =>
          refine bX11_isWithin_2 (fun _ => bX11_isWithin_21 ⟨_, rfl, rfl, ?_⟩) (fun a e => by cases e)
          rw [hb, d_bel_none hne (by rw [d_pa_of w.1 hm]; exact hq)]; rfl
        | some p =>
          have h9 := hrk d hm p hq
          obtain ⟨e, he, rfl⟩ := d_par w hm hq
          exact ih e he (by omega) (by rw [hb, d_bel_some hne (by rw [d_pa_of w.1 hm]; exact hq)])
      · obtain ⟨e, he, rfl⟩ := ho
        have : d.1 = e.1 := b3 d hm e he (by simpa using c)
        refine bX11_isWithin_11 ⟨_, rfl, rfl, ?_⟩
        rw [hb, this, d_bel_self]; rfl
  exact key (rk d0.1) d0 hd0 (Nat.le_refl _) rfl
theorem c_isWithin (ok : k_ok G l) {a o : Nat} {h : k_H} {D : List s_D × Nat} {da : Nat → Nat} (dp : c_dp a h D.1 da) (hd : d_ok D) (ho : ∃ e ∈ D.1, e.1 = o) {d0 : s_D} (hd0 : d0 ∈ D.1) :
    k_cti (tX11_isWithin G l) [vR (some (da d0.1)), vR (some (da o))] h (fun h' v => h' = h ∧ v = kB (d_bel D.1 d0.1 o)) := c_isWithin2 ok dp.2.1 dp.2.2 hd ho hd0
theorem C_shortName (ok : k_ok G l) {a N w : Nat} {B : Nat × Nat} {h : k_H} {M : s_M} {x : Int32} (W : c_W a B h M N w) (hd : d_ok (g_DS M)) : k_ct (tX11_shortName G l) [vR (some a), vI x] h (c_R a B (F_shortName M x) x_I (N + 1) w) := by
  obtain ⟨o14, -⟩ := W_ob W
  obtain ⟨da, dp⟩ := W_dp W
  refine eX11_shortName ok.2 ?_
  cases hx : d_is (g_DS M) x with
  | false =>
    refine bX11_shortName_0x (k_is_o o14) (c_dirAtX ok o14 rfl dp hd hx) ?_
    rintro _ rfl
    exact R_x (k := 1) (X := x_I) W (by unfold F_shortName; rw [if_pos hx]) (by decide)
  | true =>
    obtain ⟨d, hm, he, ht, hf, hc⟩ := c_dirAt ok o14 rfl dp hd hx
    refine bX11_shortName_0 (k_is_o o14) hc ?_
    rintro _ _ ⟨hh, rfl⟩
    rw [hh]
    refine bX11_shortName_5 (dp.2.1 d hm) rfl (R_ok (W_le W (Nat.le_succ _)) ?_)
    unfold F_shortName d_sh
    rw [if_neg (by rw [hx]; decide), hf]
theorem C_named (ok : k_ok G l) {a N w : Nat} {B : Nat × Nat} {h : k_H} {M : s_M} {x nm : Int32} (W : c_W a B h M N w) (hd : d_ok (g_DS M)) : k_ct (tX11_named G l) [vR (some a), vI x, vI nm] h (c_R a B (F_named M x nm) x_3 (N + 1) w) := by
  obtain ⟨o14, -⟩ := W_ob W
  obtain ⟨da, dp⟩ := W_dp W
  refine eX11_named ok.2 ?_
  cases hx : d_is (g_DS M) x with
  | false =>
    refine bX11_named_0x (k_is_o o14) (c_dirAtX ok o14 rfl dp hd hx) ?_
    rintro _ rfl
    exact R_x (k := 1) (X := x_3) W (by unfold F_named; rw [if_pos hx]) (by decide)
  | true =>
    obtain ⟨d, hm, he, ht, hf, hc⟩ := c_dirAt ok o14 rfl dp hd hx
    refine bX11_named_0 (k_is_o o14) hc ?_
    rintro _ _ ⟨hh, rfl⟩
    rw [hh]
    cases hn : s_inB nm 0 9 with
    | false =>
      refine bX11_named_5x (x_X11_requireName ok (in9_not hn)) ?_
      rintro _ rfl
      exact R_x (k := 2) (X := x_3) W (by unfold F_named; rw [if_neg (by rw [hx]; decide), if_pos hn]) (by decide)
    | true =>
      refine bX11_named_5 (c_X11_requireName ok (in9 hn)) ?_
      rintro _ hh
      rw [hh]
      have hF : F_named M x nm = (M, 0, match d_ch (g_DS M).1 d.1 nm with | some d => nI d.1 | none => -2147483648) := by
        unfold F_named
        rw [if_neg (by rw [hx]; decide), if_neg (by rw [hn]; decide), he, d_nm_ch hd ⟨d, hm, rfl⟩]
      refine bX11_named_10 (k_is_o o14) (c_childOf ok o14 rfl dp hd ⟨d, hm, rfl⟩) ?_
      rintro _ _ ⟨hh, rfl⟩
      rw [hh]
      cases hch : d_ch (g_DS M).1 d.1 nm with
      | none =>
        rw [hch] at hF
        exact bX11_named_16 (fun _ => bX11_named_23 (bX11_named_33 (R_ok (W_le W (Nat.le_succ _)) hF))) (fun a' e => by cases e)
      | some c =>
        rw [hch] at hF
        refine bX11_named_16 (fun e => by cases e) (fun a' _ => bX11_named_28 (dp.2.1 c (d_ch_mem hch)) rfl (bX11_named_33 (R_ok (W_le W (Nat.le_succ _)) hF)))
end CDI
