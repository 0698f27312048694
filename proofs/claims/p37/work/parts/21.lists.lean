section
/-! THE JDK'S LISTS: contracts over the list as one cell -/
theorem k_half {n : Nat} (h : n < 2 ^ 30) : nI n >>> (1 &&& 31) = nI (n / 2) := by
  apply Int32.toBitVec_inj.mp
  have e1 : (nI n).toBitVec = BitVec.ofNat 32 n := rfl
  have e2 : (nI (n / 2)).toBitVec = BitVec.ofNat 32 (n / 2) := rfl
  show (nI n).toBitVec.sshiftRight' ((1 &&& 31 : Int32).toBitVec.smod 32) = _
  rw [e1, e2]
  have e3 : ((1 &&& 31 : Int32).toBitVec.smod 32) = 1#32 := by decide
  rw [e3]
  show (BitVec.ofNat 32 n).sshiftRight 1 = _
  rw [BitVec.sshiftRight_eq_of_msb_false]
  · apply BitVec.eq_of_toNat_eq
    simp only [BitVec.toNat_ushiftRight, BitVec.toNat_ofNat, Nat.shiftRight_eq_div_pow]
    omega
  · rw [BitVec.msb_eq_decide]
    simp only [BitVec.toNat_ofNat]
    have : n % 2 ^ 32 = n := Nat.mod_eq_of_lt (by omega)
    rw [this]
    simp
    omega
def k_wf (h : k_H) : Prop := ∀ (q : Nat) (c : k_C), h.1 q = some c → q < h.2.1
theorem k_wf.none {h : k_H} (w : k_wf h) {q : Nat} (hq : h.2.1 ≤ q) : h.1 q = none := by
  cases e : h.1 q with
  | none => rfl
  | some c => have := w q c e; omega
theorem k_hp_wf {G : k_G} {h : k_H} {H : Heap} (hp : k_hp G h H) : k_wf h := fun q c hc => by
  obtain ⟨p1, p2, p3, F, ow, h1, h3⟩ := hp
  have := h3 _ _ hc
  rw [← p1]
  rcases c with ⟨ci, fs⟩ | ⟨n, f⟩ | ⟨n, f⟩ | ⟨n, f⟩ | ⟨xs, cap⟩ | ⟨n, f⟩
  rotate_right
  · exact (h1 _ _ this).2.lt
  · exact (h1 _ _ this).2.lt
  · exact (h1 _ _ this).2.lt
  · exact (h1 _ _ this).2.lt
  · exact (h1 _ _ this).2.lt
  · obtain ⟨md, t, g1, -⟩ := this
    exact (h1 _ _ g1).2.lt
/-- what is asked of what is fixed -/
def k_ok (G : k_G) (l : Launch) : Prop := k_z0 G < (k_H0 G).size ∧ l.flags = flags0
section LST
variable {G : k_G} {l : Launch}
theorem x_open {y : MethodName} {cc : ByteArray} {mL : Nat} {rt : Option FieldType} {d : Nat} {h0 h h' : k_H} {pc : Nat} {lv : k_L} {st : List k_V} {r : k_R} {Q : k_H → k_R → Prop} {a cap : Nat} {xs : List Nat} (hz : k_z0 G < (k_H0 G).size) (ho : h.1 a = some (k_l xs cap)) (hle : h.2.1 ≤ h'.2.1 ∧ h.2.2 ≤ h'.2.2)
    (K : ∀ h1, k_raw h a xs cap (k_z0 G) h1 → k_wf h1 → h1.2 = h.2 → k_X (k_J G l y cc mL rt d h0) h1 pc lv st (fun h2 r2 => r2 = r ∧ h2.2 = h'.2 ∧ ∀ H, k_hp G h2 H → k_hp G h' H)) (q : Q h' r) : k_X (k_J G l y cc mL rt d h0) h pc lv st Q := by
  refine ⟨h', r, k_Jopen (fun h1 => k_raw h a xs cap (k_z0 G) h1 ∧ k_wf h1) hle (fun H hp => ?_) (fun h1 r1 e1 => ?_), q⟩
  · obtain ⟨h1, r1, e1, p1⟩ := k_open hz hp ho
    exact ⟨h1, ⟨r1, k_hp_wf p1⟩, e1, p1⟩
  · obtain ⟨h2, r2, K9, rfl, e2, hc⟩ := K h1 r1.1 r1.2 e1
    exact k_Jres K9 e2 hc
/-- nothing was written -/
theorem raw_back {h h1 : k_H} {a cap : Nat} {xs : List Nat} (ho : h.1 a = some (k_l xs cap)) (hr : k_raw h a xs cap (k_z0 G) h1) (e : h1.2 = h.2) : ∀ H, k_hp G h1 H → k_hp G h H := fun H hp => by
  obtain ⟨md, t, o, hx, hc, hta, hcase⟩ := hr
  refine k_close (h := h) hp o hx hc ?_ e.symm ho (fun q c hq hc9 => ?_)
  · rcases hcase with ⟨z1, z2, z3⟩ | ⟨z1, z2, z3, f, z4, z5, z6⟩
    · exact Or.inl ⟨z1, z2⟩
    · exact Or.inr ⟨z1, hta, z3, f, z4, z5⟩
  · rcases hcase with ⟨z1, z2, z3⟩ | ⟨z1, z2, z3, f, z4, z5, z6⟩
    · rw [z3 q hq]; exact hc9
    · by_cases hqt : q = t
      · subst hqt; rw [z3] at hc9; cases hc9
      · rw [z6 q hq hqt]; exact hc9
theorem raw_is {h h1 : k_H} {a cap x ci : Nat} {xs : List Nat} (ho : h.1 a = some (k_l xs cap)) (hr : k_raw h a xs cap (k_z0 G) h1) (hi : k_is h x ci) : k_is h1 x ci := by
  obtain ⟨md, t, o, hx, hc, hta, hcase⟩ := hr
  by_cases hxa : x = a
  · subst hxa
    rcases hi with ⟨fs, h9⟩ | ⟨rfl, xs', cap', h9⟩
    · rw [ho] at h9; cases h9
    · exact k_is_o o
  · have key : h1.1 x = h.1 x := by
      rcases hcase with ⟨z1, z2, z3⟩ | ⟨z1, z2, z3, f, z4, z5, z6⟩
      · exact z3 x hxa
      · by_cases hxt : x = t
        · subst hxt
          rcases hi with ⟨fs, h9⟩ | ⟨-, xs', cap', h9⟩ <;> (rw [z3] at h9; cases h9)
        · exact z6 x hxa hxt
    unfold k_is
    rw [key]
    exact hi
theorem c_size (ok : k_ok G l) {h : k_H} {a cap : Nat} {xs : List Nat} (ho : h.1 a = some (k_l xs cap)) : k_cti (tAL_size G l) [vR (some a)] h (fun h' v => h' = h ∧ v = nI xs.length) := by
  refine k_cti_of (eJx4a65c_size_8abf5 ok.2 (x_open ok.1 ho (h' := h) ⟨Nat.le_refl _, Nat.le_refl _⟩ (fun h1 r1 w1 e1 => ?_) ⟨_, rfl, rfl, rfl⟩))
  obtain ⟨md, t, o, -⟩ := id r1
  exact bJx4a65c_size_8abf5_0 o rfl ⟨rfl, e1, raw_back ho r1 e1⟩
theorem c_checkIndexP (ok : k_ok G l) {h : k_H} {i n : Int32} (h1 : ¬ i < 0) (h2 : i < n) : k_cti (tJ3_checkIndex_8e157 G l) [vI i, vI n, vR none] h (fun h' v => h' = h ∧ v = i) := by
  refine k_cti_of (eJ3_checkIndex_8e157 ok.2 ?_)
  refine bJ3_checkIndex_8e157_0 (fun c => absurd c h1) (fun _ => ?_)
  refine bJ3_checkIndex_8e157_4 (fun _ => ?_) (fun c => absurd h2 c)
  exact bJ3_checkIndex_8e157_16 ⟨_, rfl, rfl, rfl⟩
theorem c_checkIndex (ok : k_ok G l) {h : k_H} {i n : Int32} (h1 : ¬ i < 0) (h2 : i < n) : k_cti (tJ15_checkIndex_7cf53 G l) [vI i, vI n] h (fun h' v => h' = h ∧ v = i) := by
  refine k_cti_of (eJ15_checkIndex_7cf53 ok.2 ?_)
  refine bJ15_checkIndex_7cf53_0 (c_checkIndexP ok h1 h2) ?_
  rintro h1 v ⟨rfl, rfl⟩
  exact bJ15_checkIndex_7cf53_6 ⟨_, rfl, rfl, rfl⟩
theorem c_get (ok : k_ok G l) {h : k_H} {a cap i x : Nat} {xs : List Nat} (ho : h.1 a = some (k_l xs cap)) (hi : xs[i]? = some x) : k_ctr (tAL_get G l) [vR (some a), vI (nI i)] h (fun h' v => h' = h ∧ v = some x) := by
  refine k_ctr_of (eJx4a65c_get_915e3 ok.2 (x_open ok.1 ho (h' := h) ⟨Nat.le_refl _, Nat.le_refl _⟩ (fun h1 r1 w1 e1 => ?_) ⟨_, rfl, rfl, rfl⟩))
  obtain ⟨md, t, o, hx, hc, hta, hcase⟩ := id r1
  have hlt : i < xs.length := (List.getElem?_eq_some_iff.mp hi).1
  refine bJx4a65c_get_915e3_0 o rfl (c_checkIndex ok (nI_pos (by omega)) (nI_lt hlt (by omega))) ?_
  rintro h2 v ⟨rfl, rfl⟩
  rcases hcase with ⟨z1, z2, z3⟩ | ⟨z1, z2, z3, f, z4, z5, z6⟩
  · omega
  · refine bJx4a65c_get_915e3_8 (k_is_o o) (P := fun h' v => h' = h2 ∧ v = some x) (k_ctr_of (eJx4a65c_elementData_915e3 ok.2 (bJx4a65c_elementData_915e3_0 o rfl z4 (nI_in (by omega) (by omega)) ⟨_, rfl, rfl, ?_⟩))) ?_
    · rw [nI_clamp (by omega), z5 i hlt, hi]
    · rintro h3 v ⟨rfl, rfl⟩
      exact bJx4a65c_get_915e3_14 ⟨rfl, e1, raw_back ho r1 e1⟩
end LST
end
section
/-! THE JDK'S LISTS, II: writing -/
theorem nI_sub {a b : Nat} (h : b ≤ a) : nI a - nI b = nI (a - b) := by
  have e : nI a = nI (a - b) + nI b := by rw [nI_add, Nat.sub_add_cancel h]
  rw [e]
  exact Int32.add_sub_cancel _ _
theorem nI_max {a b : Nat} (ha : a < 2 ^ 31) (hb : b < 2 ^ 31) : (if nI a < nI b then nI b else nI a) = nI (max a b) := by
  by_cases c : nI a < nI b
  · have := (nI_ltI ha hb).mp c
    rw [if_pos c, Nat.max_eq_right (by omega)]
  · have : ¬ a < b := fun z => c ((nI_ltI ha hb).mpr z)
    rw [if_neg c, Nat.max_eq_left (by omega)]
theorem nI_min {a b : Nat} (ha : a < 2 ^ 31) (hb : b < 2 ^ 31) : (if nI a < nI b then nI a else nI b) = nI (min a b) := by
  by_cases c : nI a < nI b
  · have := (nI_ltI ha hb).mp c
    rw [if_pos c, Nat.min_eq_left (by omega)]
  · have : ¬ a < b := fun z => c ((nI_ltI ha hb).mpr z)
    rw [if_neg c, Nat.min_eq_right (by omega)]
/-- a list under work: its object, its row, and the rest untouched -/
def k_rw (h h1 : k_H) (a n cap z0 : Nat) (md : Int32) (t : Nat) (f : Nat → Option Nat) : Prop := h1.1 a = some (k_o 2 [vI md, vR (some t), vI (nI n)]) ∧ t ≠ a ∧ k_wf h1 ∧ (∀ q c, q ≠ a → h.1 q = some c → h1.1 q = some c) ∧ ((cap = 0 ∧ t = z0) ∨ (0 < cap ∧ h.1 t = none ∧ h1.1 t = some (k_q cap f)))
/-- an element that a list may hold -/
def k_el (h : k_H) (x : Nat) : Prop := ∃ ci, k_is h x ci ∧ k_toObj ci
theorem k_to {ci : Nat} {C : String} {T : u_T} {N : Nat} (h : vwCl[ci]? = some (C, T, N)) (hc : (C, "java/lang/Object") ∈ k_casts) : k_toObj ci := ⟨C, T, N, h, hc⟩
theorem rw_is {h h1 : k_H} {a n cap z0 t l0 c0 x ci : Nat} {md : Int32} {f : Nat → Option Nat} {xs : List Nat} (ho : h.1 a = some (k_l xs l0)) (w : k_rw h h1 a n cap z0 md t f) (hi : k_is h x ci) : k_is h1 x ci := by
  obtain ⟨o, -, -, k, -⟩ := w
  by_cases hxa : x = a
  · subst hxa
    rcases hi with ⟨fs, h9⟩ | ⟨rfl, xs', cap', h9⟩
    · rw [ho] at h9; cases h9
    · exact k_is_o o
  · rcases hi with ⟨fs, h9⟩ | ⟨rfl, xs', cap', h9⟩
    · exact Or.inl ⟨fs, k _ _ hxa h9⟩
    · exact Or.inr ⟨rfl, xs', cap', k _ _ hxa h9⟩
theorem k_wf_up {h : k_H} {a : Nat} {c c0 : k_C} (w : k_wf h) (ha : h.1 a = some c0) : k_wf (k_up h a c) := fun q c9 hq => by
  by_cases e : q = a
  · subst e; exact w _ _ ha
  · rw [k_up_ne _ _ e] at hq; exact w _ _ hq
theorem k_wf_nw {h : k_H} {n : Nat} {c : k_C} (w : k_wf h) : k_wf (k_nw h n c) := fun q c9 hq => by
  show q < h.2.1 + 1
  by_cases e : q = h.2.1
  · omega
  · rw [k_nw_ne _ _ _ e] at hq; have := w _ _ hq; omega
/-- the list's object is written -/
theorem rw_obj {h h1 : k_H} {a n n2 cap z0 t : Nat} {md md2 : Int32} {f : Nat → Option Nat} (w : k_rw h h1 a n cap z0 md t f) : k_rw h (k_up h1 a (k_o 2 [vI md2, vR (some t), vI (nI n2)])) a n2 cap z0 md2 t f := by
  obtain ⟨o, h2, h3, h4, h5⟩ := w
  refine ⟨k_up_self _ _ _, h2, k_wf_up h3 o, fun q c hq hc => by rw [k_up_ne _ _ hq]; exact h4 _ _ hq hc, ?_⟩
  rcases h5 with h5 | ⟨h5, h6, h7⟩
  · exact Or.inl h5
  · exact Or.inr ⟨h5, h6, by rw [k_up_ne _ _ h2]; exact h7⟩
/-- the list's row is written -/
theorem rw_row {h h1 : k_H} {a n cap z0 t : Nat} {md : Int32} {f g : Nat → Option Nat} (w : k_rw h h1 a n cap z0 md t f) (hc : 0 < cap) : k_rw h (k_up h1 t (k_q cap g)) a n cap z0 md t g := by
  obtain ⟨o, h2, h3, h4, h5⟩ := w
  rcases h5 with ⟨h5, -⟩ | ⟨h5, h6, h7⟩
  · omega
  refine ⟨by rw [k_up_ne _ _ (Ne.symm h2)]; exact o, h2, k_wf_up h3 h7, fun q c hq hc => ?_, Or.inr ⟨h5, h6, k_up_self _ _ _⟩⟩
  have hqt : q ≠ t := fun z => by subst z; rw [h6] at hc; cases hc
  rw [k_up_ne _ _ hqt]; exact h4 _ _ hq hc
/-- the list is closed -/
theorem rw_done {G : k_G} {h h1 h' : k_H} {a n cap z0 t : Nat} {md : Int32} {f : Nat → Option Nat} {ys : List Nat} (hz : z0 = k_z0 G) (w : k_rw h h1 a n cap z0 md t f) (hn : n = ys.length) (hx : ys.length ≤ cap) (hcap : cap < 2 ^ 30) (hf : ∀ i : Nat, i < ys.length → f i = ys[i]?) (e2 : h'.2 = h1.2) (e3 : h'.1 = (k_up h a (k_l ys cap)).1) : ∀ H, k_hp G h1 H → k_hp G h' H := fun H hp => by
  obtain ⟨o, h2, h3, h4, h5⟩ := w
  subst hn
  refine k_close (h := h') hp o hx hcap ?_ e2 (by rw [e3]; exact k_up_self _ _ _) (fun q c hq hc => ?_)
  · rcases h5 with ⟨h5, h6⟩ | ⟨h5, h6, h7⟩
    · exact Or.inl ⟨h5, h6.trans hz⟩
    · exact Or.inr ⟨h5, h2, by rw [e3, k_up_ne _ _ h2]; exact h6, f, h7, hf⟩
  · rw [e3, k_up_ne _ _ hq] at hc
    exact h4 _ _ hq hc
theorem rw_open {h h1 : k_H} {a cap z0 : Nat} {xs : List Nat} (hr : k_raw h a xs cap z0 h1) (wf : k_wf h1) : xs.length ≤ cap ∧ cap < 2 ^ 30 ∧ ∃ (md : Int32) (t : Nat) (f : Nat → Option Nat), k_rw h h1 a xs.length cap z0 md t f ∧ ∀ i : Nat, i < xs.length → f i = xs[i]? := by
  obtain ⟨md, t, o, hx, hc, hta, hcase⟩ := hr
  refine ⟨hx, hc, md, t, ?_⟩
  rcases hcase with ⟨z1, z2, z3⟩ | ⟨z1, z2, z3, f, z4, z5, z6⟩
  · exact ⟨fun _ => none, ⟨o, hta, wf, fun q c hq h9 => by rw [z3 q hq]; exact h9, Or.inl ⟨z1, z2⟩⟩, fun i hi => by omega⟩
  · refine ⟨f, ⟨o, hta, wf, fun q c hq h9 => ?_, Or.inr ⟨z1, z3, z4⟩⟩, z5⟩
    have hqt : q ≠ t := fun z => by subst z; rw [z3] at h9; cases h9
    rw [z6 q hq hqt]; exact h9
section LST2
variable {G : k_G} {l : Launch}
theorem c_newLength (ok : k_ok G l) {h : k_H} {n k m : Nat} (hn : n < 2 ^ 20) (hk : k < 2 ^ 20) (hm : m < 2 ^ 20) (hp : 0 < max k m) : k_cti (tJ8_newLength_cabcc G l) [vI (nI n), vI (nI k), vI (nI m)] h (fun h' v => h' = h ∧ v = nI (n + max k m)) := by
  have e : nI n + (if nI k < nI m then nI m else nI k) = nI (n + max k m) := by rw [nI_max (by omega) (by omega), nI_add]
  have hb : n + max k m < 2 ^ 21 := by omega
  refine k_cti_of (eJ8_newLength_cabcc ok.2 (bJ8_newLength_cabcc_0 (fun c => ?_) (fun _ => ?_)))
  · rw [e] at c
    exact absurd c (nI_nle (by omega) (by omega))
  · rw [e]
    refine bJ8_newLength_cabcc_13 (fun c => ?_) (fun _ => bJ8_newLength_cabcc_19 ⟨_, rfl, rfl, rfl⟩)
    have e2 : (2147483639 : Int32) = nI 2147483639 := by decide
    rw [e2] at c
    have := (nI_ltI (by omega) (by omega)).mp c
    omega
theorem c_copyOf (ok : k_ok G l) {h : k_H} {n m t : Nat} {f : Nat → Option Nat} (wf : k_wf h) (ho : h.1 t = some (k_q n f)) (hn : n ≤ m) (hm : m < 2 ^ 20) (hel : ∀ i z : Nat, i < n → f i = some z → k_el h z) : k_ctr (tJ7_copyOf_1904c G l) [vR (some t), vI (nI m)] h (fun h' v => v = some h.2.1 ∧ h'.2 = (h.2.1 + 1, h.2.2 + m) ∧ k_wf h' ∧ (∃ g : Nat → Option Nat, h'.1 h.2.1 = some (k_q m g) ∧ ∀ i : Nat, i < n → g i = f i) ∧ ∀ q : Nat, q ≠ h.2.1 → h'.1 q = h.1 q) := by
  have ht : t < h.2.1 := wf _ _ ho
  refine k_ctr_of (eJ7_copyOf_1904c ok.2 (bJ7_copyOf_1904c_0 ho (bJ7_copyOf_1904c_6 (P := fun h' v => v = some h.2.1 ∧ h'.2 = (h.2.1 + 1, h.2.2 + m) ∧ k_wf h' ∧ (∃ g : Nat → Option Nat, h'.1 h.2.1 = some (k_q m g) ∧ ∀ i : Nat, i < n → g i = f i) ∧ ∀ q : Nat, q ≠ h.2.1 → h'.1 q = h.1 q) (k_ctr_of (eJ7_copyOf_6403c ok.2 ?_)) ?_)))
  · refine bJ7_copyOf_6403c_0 (fun c => absurd rfl c) (fun _ => bJ7_copyOf_6403c_6 (n1 := m) rfl hm (bJ7_copyOf_6403c_10 (bJ7_copyOf_6403c_24 ?_)))
    have o2 : (k_nw h m (k_q m (fun _ => none))).1 t = some (k_q n f) := by rw [k_nw_ne _ _ _ (by omega)]; exact ho
    refine bJ7_copyOf_6403c_30 o2 ?_
    have em : (if nI m < nI n then nI m else nI n) = nI n := by rw [nI_min (by omega) (by omega), Nat.min_eq_right hn]
    have e0 : (0 : Int32).toNatClampNeg = 0 := by decide
    refine bJ7_copyOf_6403c_31 o2 (k_nw_self _ _ _) (by decide) (by decide) (by rw [em]; exact nI_pos (by omega)) ?_ ?_ ?_ ?_
    · rw [em, nI_clamp (by omega), e0]; omega
    · rw [em, nI_clamp (by omega), e0]; omega
    · rw [em, nI_clamp (by omega), e0]
      intro i hi z hz
      rw [Nat.zero_add] at hz
      obtain ⟨ci, w1, w2⟩ := hel i z hi hz
      refine ⟨ci, ?_, w2⟩
      rcases w1 with ⟨fs, h9⟩ | ⟨rfl, xs, cap, h9⟩
      · exact Or.inl ⟨fs, by rw [k_nw_ne _ _ _ (by have := wf _ _ h9; omega)]; exact h9⟩
      · exact Or.inr ⟨rfl, xs, cap, by rw [k_nw_ne _ _ _ (by have := wf _ _ h9; omega)]; exact h9⟩
    · refine bJ7_copyOf_6403c_38 ⟨_, rfl, rfl, rfl, k_wf_up (k_wf_nw wf) (k_nw_self _ _ _), ⟨_, k_up_self _ _ _, fun i hi => ?_⟩, fun q hq => by rw [k_up_ne _ _ hq, k_nw_ne _ _ _ hq]⟩
      rw [em, nI_clamp (by omega), e0]
      unfold va_cpy
      rw [if_pos (by omega)]
      simp
  · intro h1 v hv
    exact bJ7_copyOf_1904c_9 ⟨_, rfl, hv⟩
/-- the next capacity -/
def k_nc (cap : Nat) : Nat := if cap = 0 then 10 else cap + max 1 (cap / 2)
theorem k_nc_lt {cap : Nat} (h : cap < 2 ^ 18) : k_nc cap < 2 ^ 19 := by unfold k_nc; split <;> omega
theorem k_nc_gt (cap : Nat) : cap < k_nc cap := by unfold k_nc; split <;> omega
theorem c_grow (ok : k_ok G l) {h h1 : k_H} {a n cap t l0 : Nat} {xs : List Nat} {md : Int32} {f : Nat → Option Nat} (ho : h.1 a = some (k_l xs l0)) (hle : h.2.1 ≤ h1.2.1) (wh : k_wf h) (w : k_rw h h1 a n cap (k_z0 G) md t f) (hn : n = cap) (hb : cap < 2 ^ 18) (hel : ∀ i z : Nat, i < cap → f i = some z → k_el h z) :
    k_ctr (tJx4a65c_grow_d5877 G l) [vR (some a)] h1 (fun h' v => v = some h1.2.1 ∧ h'.2 = (h1.2.1 + 1, h1.2.2 + k_nc cap) ∧ ∃ g : Nat → Option Nat, k_rw h h' a n (k_nc cap) (k_z0 G) md h1.2.1 g ∧ ∀ i : Nat, i < cap → g i = f i) := by
  obtain ⟨o, h2, h3, h4, h5⟩ := id w
  have hal : a < h1.2.1 := h3 _ _ o
  subst hn
  refine k_ctr_of (eJx4a65c_grow_d5877 ok.2 (bJx4a65c_grow_d5877_0 (P := fun h' v => v = some h1.2.1 ∧ h'.2 = (h1.2.1 + 1, h1.2.2 + k_nc n) ∧ ∃ g : Nat → Option Nat, k_rw h h' a n (k_nc n) (k_z0 G) md h1.2.1 g ∧ ∀ i : Nat, i < n → g i = f i) o rfl (k_ctr_of (eJx4a65c_grow_92f84 ok.2 (bJx4a65c_grow_92f84_0 o rfl ?_))) (fun h9 v hv => bJx4a65c_grow_d5877_10 ⟨_, rfl, hv⟩)))
  have hnone : h.1 h1.2.1 = none := wh.none hle
  rcases h5 with ⟨h5, rfl⟩ | ⟨h5, h6, h7⟩
  · subst h5
    refine bJx4a65c_grow_92f84_4z (bJx4a65c_grow_92f84_5 (fun c => absurd c (by decide)) (fun _ => bJx4a65c_grow_92f84_10 o rfl (fun _ => ?_) (fun c => absurd rfl c)))
    have oa : (k_nw h1 10 (k_q 10 (fun _ => none))).1 a = some (k_o 2 [vI md, vR (some (k_z0 G)), vI (nI 0)]) := by rw [k_nw_ne _ _ _ (by omega)]; exact o
    refine bJx4a65c_grow_92f84_45 (n1 := 10) (by decide) (by decide) (bJx4a65c_grow_92f84_55 oa rfl (bJx4a65c_grow_92f84_59 ⟨_, rfl, rfl, rfl, fun _ => none, ⟨k_up_self _ _ _, by omega, k_wf_up (k_wf_nw h3) oa, fun q c hq hc => ?_, Or.inr ⟨by decide, hnone, ?_⟩⟩, fun i hi => by omega⟩))
    · rw [k_up_ne _ _ hq, k_nw_ne _ _ _ (fun z => by subst z; rw [hnone] at hc; cases hc)]
      exact h4 _ _ hq hc
    · rw [k_up_ne _ _ (by omega)]
      exact k_nw_self _ _ _
  · refine bJx4a65c_grow_92f84_4 h7 (bJx4a65c_grow_92f84_5 (fun _ => ?_) (fun c => absurd (by rw [← nI_0]; exact nI_lt h5 (by omega)) c))
    have e1 : nI n + 1 - nI n = nI 1 := by rw [nI_1, nI_sub (by omega)]; congr 1; omega
    have hnc : n + max 1 (n / 2) = k_nc n := by unfold k_nc; rw [if_neg (by omega)]
    refine bJx4a65c_grow_92f84_20 (P := fun h' v => h' = h1 ∧ v = nI (k_nc n)) (by rw [k_half (by omega), e1, ← hnc]; exact c_newLength ok (by omega) (by omega) (by omega) (by omega)) ?_
    rintro h9 v ⟨rfl, rfl⟩
    refine bJx4a65c_grow_92f84_30 o rfl (c_copyOf ok h3 h7 (Nat.le_of_lt (k_nc_gt n)) (by have := k_nc_lt hb; omega) (fun i z hi hz => ?_)) ?_
    · obtain ⟨ci, w1, w2⟩ := hel i z hi hz
      exact ⟨ci, rw_is (c0 := 0) ho w w1, w2⟩
    · rintro h10 v ⟨rfl, e2, wf2, ⟨g, g1, g2⟩, hrest⟩
      have oa : h10.1 a = some (k_o 2 [vI md, vR (some t), vI (nI n)]) := by rw [hrest _ (by omega)]; exact o
      refine bJx4a65c_grow_92f84_40 oa rfl (bJx4a65c_grow_92f84_44 ⟨_, rfl, rfl, e2, g, ⟨k_up_self _ _ _, by omega, k_wf_up wf2 oa, fun q c hq hc => ?_, Or.inr ⟨Nat.lt_of_le_of_lt (Nat.zero_le _) (k_nc_gt n), hnone, ?_⟩⟩, g2⟩)
      · rw [k_up_ne _ _ hq, hrest _ (fun z => by subst z; rw [hnone] at hc; cases hc)]
        exact h4 _ _ hq hc
      · rw [k_up_ne _ _ (by omega)]
        exact g1
/-- a list longer by one: its capacity, and the heap's price -/
def k_gr (h : k_H) (a : Nat) (ys : List Nat) (n cap : Nat) : k_H := if n < cap then k_up h a (k_l ys cap) else k_sk (k_up h a (k_l ys (k_nc cap))) 1 (k_nc cap)
theorem va_upa {f : Nat → Option Nat} {k : Nat} {v : Option Nat} : va_up f k v k = v := by simp [va_up]
theorem va_upn {f : Nat → Option Nat} {k j : Nat} {v : Option Nat} (h : j ≠ k) : va_up f k v j = f j := by simp [va_up, h]
theorem app_get {xs : List Nat} {x : Nat} {f : Nat → Option Nat} (h : ∀ i : Nat, i < xs.length → f i = xs[i]?) : ∀ i : Nat, i < (xs ++ [x]).length → va_up f xs.length (some x) i = (xs ++ [x])[i]? := fun i hi => by
  rw [List.length_append] at hi
  by_cases e : i = xs.length
  · subst e; rw [va_upa]; simp
  · have : i < xs.length := by simp at hi; omega
    rw [va_upn e, h i this, List.getElem?_append_left this]
theorem c_add (ok : k_ok G l) {h : k_H} {a cap x : Nat} {xs : List Nat} (wh : k_wf h) (ho : h.1 a = some (k_l xs cap)) (hb : xs.length < 2 ^ 18) (hel : ∀ z ∈ xs, k_el h z) (hx : k_el h x) : k_cti (tAL_add G l) [vR (some a), vR (some x)] h (fun h' v => h' = k_gr h a (xs ++ [x]) xs.length cap ∧ v = 1) := by
  have hle : h.2.1 ≤ (k_gr h a (xs ++ [x]) xs.length cap).2.1 ∧ h.2.2 ≤ (k_gr h a (xs ++ [x]) xs.length cap).2.2 := by
    unfold k_gr
    split
    · exact ⟨Nat.le_refl _, Nat.le_refl _⟩
    · exact ⟨Nat.le_succ _, Nat.le_add_right _ _⟩
  refine k_cti_of (eJx4a65c_add_9ea2d ok.2 (x_open ok.1 ho hle (fun h1 r1 w1 e1 => ?_) ⟨_, rfl, rfl, rfl⟩))
  obtain ⟨hlc, hc, md, t, f, w, hf⟩ := rw_open r1 w1
  refine bJx4a65c_add_9ea2d_0 w.1 rfl rfl ?_
  have w2 := rw_obj (n2 := xs.length) (md2 := md + 1) w
  refine bJx4a65c_add_9ea2d_10 (P := fun h9 => h9.2 = (k_gr h a (xs ++ [x]) xs.length cap).2 ∧ ∀ H, k_hp G h9 H → k_hp G (k_gr h a (xs ++ [x]) xs.length cap) H) w2.1 rfl rfl ?_ (fun h9 p9 => bJx4a65c_add_9ea2d_23 ⟨rfl, p9⟩)
  refine k_ctv_of (eJx4a65c_add_72be8 ok.2 (bJx4a65c_add_72be8_0 ?_))
  have key : ∀ (h3 : k_H) (cap3 t3 : Nat) (g : Nat → Option Nat), k_rw h h3 a xs.length cap3 (k_z0 G) (md + 1) t3 g → xs.length < cap3 → cap3 < 2 ^ 30 → (∀ i : Nat, i < xs.length → g i = xs[i]?) → h3.2 = (k_gr h a (xs ++ [x]) xs.length cap).2 → (k_gr h a (xs ++ [x]) xs.length cap).1 = (k_up h a (k_l (xs ++ [x]) cap3)).1 →
      k_X (jJx4a65c_add_72be8 G l (k_up h1 a (k_o 2 [vI (md + 1), vR (some t), vI (nI xs.length)]))) h3 11 [(0, vR (some a)), (1, vR (some x)), (2, vR (some t3)), (3, vI (nI xs.length))] [] (q_v (fun h9 => h9.2 = (k_gr h a (xs ++ [x]) xs.length cap).2 ∧ ∀ H, k_hp G h9 H → k_hp G (k_gr h a (xs ++ [x]) xs.length cap) H)) := by
    intro h3 cap3 t3 g w3 hlt hc3 hg e3 e4
    obtain ⟨z1, z2, z3, z4, z5⟩ := id w3
    rcases z5 with ⟨z5, -⟩ | ⟨z5, z6, z7⟩
    · omega
    refine bJx4a65c_add_72be8_11 z7 (nI_in hlt (by omega)) (fun b hb9 => ?_) ?_
    · cases hb9
      obtain ⟨ci, u1, u2⟩ := hx
      exact ⟨ci, rw_is (c0 := 0) ho w3 u1, u2⟩
    have w4 := rw_row (g := va_up g (nI xs.length).toNatClampNeg (some x)) w3 z5
    refine bJx4a65c_add_72be8_15 w4.1 rfl (bJx4a65c_add_72be8_22 ?_)
    rw [nI_clamp (by omega)] at w4
    have w5 := rw_obj (n2 := xs.length + 1) (md2 := md + 1) w4
    refine ⟨rfl, e3, ?_⟩
    have := rw_done (h' := k_gr h a (xs ++ [x]) xs.length cap) rfl w5 (by simp) (by simp; omega) hc3 (app_get hg) e3.symm e4
    rw [nI_clamp (by omega)]
    rw [nI_1]
    exact this
  rcases id w2.2.2.2.2 with ⟨y1, y2⟩ | ⟨y1, y2, y3⟩
  · subst y2
    refine bJx4a65c_add_72be8_2z (bJx4a65c_add_72be8_3 (fun c => absurd (by rw [← nI_0]; congr 1; omega) c) (fun _ => ?_))
    refine bJx4a65c_add_72be8_6 (k_is_o w2.1) (c_grow ok ho (by show h.2.1 ≤ h1.2.1; rw [e1]; exact Nat.le_refl _) wh w2 (by omega) (by omega) (fun i z hi => by omega)) ?_
    rintro h3 v ⟨rfl, e3, g, w3, hg⟩
    have hng : ¬ xs.length < cap := by omega
    refine bJx4a65c_add_72be8_10 (key h3 _ _ g w3 (by have := k_nc_gt cap; omega) (by have := k_nc_lt (cap := cap) (by omega); omega) (fun i hi => by omega) ?_ ?_)
    · rw [e3]
      unfold k_gr
      rw [if_neg hng]
      show (h1.2.1 + 1, h1.2.2 + k_nc cap) = (h.2.1 + 1, h.2.2 + k_nc cap)
      rw [e1]
    · unfold k_gr
      rw [if_neg hng]
      rfl
  · refine bJx4a65c_add_72be8_2 y3 (bJx4a65c_add_72be8_3 (fun c => ?_) (fun c => ?_))
    · have hlt : xs.length < cap := by
        by_cases z : xs.length = cap
        · rw [z] at c; exact absurd rfl c
        · omega
      refine key _ cap t f w2 hlt hc hf ?_ ?_
      · unfold k_gr
        rw [if_pos hlt]
        exact e1
      · unfold k_gr
        rw [if_pos hlt]
    · have heq : xs.length = cap := (nI_eq (by omega) (by omega)).mp c
      have hng : ¬ xs.length < cap := by omega
      refine bJx4a65c_add_72be8_6 (k_is_o w2.1) (c_grow ok ho (by show h.2.1 ≤ h1.2.1; rw [e1]; exact Nat.le_refl _) wh w2 heq (by omega) (fun i z hi hz => ?_)) ?_
      · rw [hf i (by omega)] at hz
        exact hel z (List.mem_of_getElem? hz)
      rintro h3 v ⟨rfl, e3, g, w3, hg⟩
      refine bJx4a65c_add_72be8_10 (key h3 _ _ g w3 (by have := k_nc_gt cap; omega) (by have := k_nc_lt (cap := cap) (by omega); omega) (fun i hi => by rw [hg i (by omega), hf i hi]) ?_ ?_)
      · rw [e3]
        unfold k_gr
        rw [if_neg hng]
        show (h1.2.1 + 1, h1.2.2 + k_nc cap) = (h.2.1 + 1, h.2.2 + k_nc cap)
        rw [e1]
      · unfold k_gr
        rw [if_neg hng]
        rfl
end LST2
end
section
/-! THE JDK'S LISTS, III: made, emptied, put in between, taken out -/
section LST3
variable {G : k_G} {l : Launch}
theorem x_res {y : MethodName} {cc : ByteArray} {mL : Nat} {rt : Option FieldType} {d : Nat} {h0 h h' : k_H} {pc : Nat} {lv : k_L} {st : List k_V} {r : k_R} {Q : k_H → k_R → Prop} (K : k_X (k_J G l y cc mL rt d h0) h pc lv st (fun h2 r2 => r2 = r ∧ h2.2 = h'.2 ∧ ∀ H, k_hp G h2 H → k_hp G h' H)) (q : Q h' r) : k_X (k_J G l y cc mL rt d h0) h pc lv st Q := by
  obtain ⟨h2, r2, K9, rfl, e2, hc⟩ := K
  exact ⟨h', r2, k_Jres K9 e2 hc, q⟩
theorem c_init (ok : k_ok G l) {h : k_H} {a : Nat} (wh : k_wf h) (hz : k_z0 G < a) (o : h.1 a = some (k_o 2 [vI 0, vR none, vI 0])) : k_ctv (tAL_init G l) [vR (some a)] h (fun h' => h' = k_up h a (k_l [] 0)) := by
  refine k_ctv_of (eJx4a65c_init_da8c8 ok.2 (x_res (h' := k_up h a (k_l [] 0)) (r := .inl none) ?_ ⟨rfl, rfl⟩))
  refine bJx4a65c_init_da8c8_0 (P := fun h1 => h1 = k_up h a (k_o 2 [vI 0, vR none, vI 0])) (k_ctv_of (eJxc12de_init_da8c8 ok.2 (bJxc12de_init_da8c8_0 (P := fun h1 => h1 = h) (k_ctv_of (eJxa1e45_init_da8c8 ok.2 (bJxa1e45_init_da8c8_0 ⟨rfl, rfl⟩))) ?_))) ?_
  · rintro h1 rfl
    exact bJxc12de_init_da8c8_4 o rfl (bJxc12de_init_da8c8_9 ⟨rfl, rfl⟩)
  · rintro h1 rfl
    refine bJx4a65c_init_da8c8_4 (k_up_self _ _ _) rfl (bJx4a65c_init_da8c8_11 ⟨rfl, rfl, fun H hp => ?_⟩)
    rw [k_uu] at hp
    exact k_close (h := k_up h a (k_l [] 0)) (t := k_z0 G) (md := 0) hp (k_up_self _ _ _) (Nat.le_refl _) (by decide) (Or.inl ⟨rfl, rfl⟩) rfl (k_up_self _ _ _) (fun q c hq hc => by rw [k_up_ne _ _ hq] at hc ⊢; exact hc)
theorem c_clear (ok : k_ok G l) {h : k_H} {a cap : Nat} {xs : List Nat} (ho : h.1 a = some (k_l xs cap)) : k_ctv (tAL_clear G l) [vR (some a)] h (fun h' => h' = k_up h a (k_l [] cap)) := by
  refine k_ctv_of (eJx4a65c_clear_da8c8 ok.2 (x_open ok.1 ho (h' := k_up h a (k_l [] cap)) ⟨Nat.le_refl _, Nat.le_refl _⟩ (fun h1 r1 w1 e1 => ?_) ⟨rfl, rfl⟩))
  obtain ⟨hlc, hc, md, t, f, w, hf⟩ := rw_open r1 w1
  refine bJx4a65c_clear_da8c8_0 w.1 rfl rfl ?_
  have w2 := rw_obj (n2 := xs.length) (md2 := md + 1) w
  refine bJx4a65c_clear_da8c8_10 w2.1 rfl rfl rfl (bJx4a65c_clear_da8c8_26 ?_)
  have w3 := rw_obj (n2 := 0) (md2 := md + 1) w2
  have key : ∀ (k i : Nat) (g : Nat → Option Nat) (h3 : k_H), xs.length - i = k → i ≤ xs.length → h3.2 = h.2 → k_rw h h3 a 0 cap (k_z0 G) (md + 1) t g →
      k_X (jJx4a65c_clear_da8c8 G l h) h3 27 [(1, vR (some t)), (2, vI (nI xs.length)), (3, vI (nI i))] [] (fun h2 r2 => r2 = .inl none ∧ h2.2 = (k_up h a (k_l [] cap)).2 ∧ ∀ H, k_hp G h2 H → k_hp G (k_up h a (k_l [] cap)) H) := by
    intro k
    induction k with
    | zero =>
      intro i g h3 hk hi e3 w9
      refine bJx4a65c_clear_da8c8_27 (fun _ => bJx4a65c_clear_da8c8_42 ⟨rfl, e3, rw_done rfl w9 rfl (Nat.zero_le _) hc (fun j hj => by cases hj) e3.symm rfl⟩) (fun c => absurd (nI_le (by omega) (by omega)) c)
    | succ k ih =>
      intro i g h3 hk hi e3 w9
      refine bJx4a65c_clear_da8c8_27 (fun c => absurd c (nI_ge (by omega) (by omega))) (fun _ => ?_)
      rcases id w9.2.2.2.2 with ⟨y1, y2⟩ | ⟨y1, y2, y3⟩
      · omega
      · refine bJx4a65c_clear_da8c8_32 y3 (nI_in (by omega) (by omega)) (bJx4a65c_clear_da8c8_36 ?_)
        rw [nI_1]
        exact ih (i + 1) _ _ (by omega) (by omega) e3 (rw_row w9 y1)
  exact key _ 0 f _ rfl (Nat.zero_le _) (by exact e1) w3
theorem c_rangeAdd (ok : k_ok G l) {h : k_H} {a n i : Nat} {x z : k_V} (hn : n < 2 ^ 30) (hi : i ≤ n) (o : h.1 a = some (k_o 2 [x, z, vI (nI n)])) : k_ctv (tJx4a65c_rangeCheckForAdd_d00df G l) [vR (some a), vI (nI i)] h (fun h' => h' = h) := by
  refine k_ctv_of (eJx4a65c_rangeCheckForAdd_d00df ok.2 (bJx4a65c_rangeCheckForAdd_d00df_0 o rfl (fun c => absurd c (nI_nlt hi (by omega))) (fun _ => ?_)))
  exact bJx4a65c_rangeCheckForAdd_d00df_8 (fun _ => bJx4a65c_rangeCheckForAdd_d00df_25 ⟨rfl, rfl⟩) (fun c => absurd (nI_pos' (by omega)) c)
theorem ins_get {xs : List Nat} {i x : Nat} {f : Nat → Option Nat} (hi : i ≤ xs.length) (h : ∀ j : Nat, j < xs.length → f j = xs[j]?) : ∀ j : Nat, j < (xs.insertIdx i x).length → va_up (va_cpy f f i (i + 1) (xs.length - i)) i (some x) j = (xs.insertIdx i x)[j]? := fun j hj => by
  rw [List.length_insertIdx, if_pos hi] at hj
  rw [List.getElem?_insertIdx]
  by_cases c1 : j < i
  · rw [if_pos c1, va_upn (by omega)]
    unfold va_cpy
    rw [if_neg (by omega)]
    exact h j (by omega)
  · rw [if_neg c1]
    by_cases c2 : j = i
    · subst c2
      rw [if_pos rfl, if_pos hi, va_upa]
    · rw [if_neg c2, va_upn c2]
      unfold va_cpy
      rw [if_pos (by omega), h _ (by omega)]
      congr 1
      omega
theorem era_get {xs : List Nat} {i : Nat} {f : Nat → Option Nat} (hi : i < xs.length) (h : ∀ j : Nat, j < xs.length → f j = xs[j]?) : ∀ j : Nat, j < (xs.eraseIdx i).length → va_up (va_cpy f f (i + 1) i (xs.length - 1 - i)) (xs.length - 1) none j = (xs.eraseIdx i)[j]? := fun j hj => by
  rw [List.length_eraseIdx, if_pos hi] at hj
  rw [List.getElem?_eraseIdx, va_upn (by omega)]
  unfold va_cpy
  by_cases c1 : j < i
  · rw [if_pos c1, if_neg (by omega)]
    exact h j (by omega)
  · rw [if_neg c1, if_pos (by omega), h _ (by omega)]
    congr 1
    omega
theorem era_get0 {xs : List Nat} {i : Nat} {f : Nat → Option Nat} (hi : i + 1 = xs.length) (h : ∀ j : Nat, j < xs.length → f j = xs[j]?) : ∀ j : Nat, j < (xs.eraseIdx i).length → va_up f (xs.length - 1) none j = (xs.eraseIdx i)[j]? := fun j hj => by
  rw [List.length_eraseIdx, if_pos (by omega)] at hj
  rw [List.getElem?_eraseIdx, va_upn (by omega), if_pos (by omega)]
  exact h j (by omega)
theorem c_addAt (ok : k_ok G l) {h : k_H} {a cap x i : Nat} {xs : List Nat} (wh : k_wf h) (ho : h.1 a = some (k_l xs cap)) (hb : xs.length < 2 ^ 18) (hi : i ≤ xs.length) (hel : ∀ z ∈ xs, k_el h z) (hx : k_el h x) : k_ctv (tAL_addAt G l) [vR (some a), vI (nI i), vR (some x)] h (fun h' => h' = k_gr h a (xs.insertIdx i x) xs.length cap) := by
  have hle : h.2.1 ≤ (k_gr h a (xs.insertIdx i x) xs.length cap).2.1 ∧ h.2.2 ≤ (k_gr h a (xs.insertIdx i x) xs.length cap).2.2 := by
    unfold k_gr
    split
    · exact ⟨Nat.le_refl _, Nat.le_refl _⟩
    · exact ⟨Nat.le_succ _, Nat.le_add_right _ _⟩
  refine k_ctv_of (eJx4a65c_add_7a177 ok.2 (x_open ok.1 ho hle (fun h1 r1 w1 e1 => ?_) ⟨rfl, rfl⟩))
  obtain ⟨hlc, hc, md, t, f, w, hf⟩ := rw_open r1 w1
  refine bJx4a65c_add_7a177_0 (k_is_o w.1) (c_rangeAdd ok (by omega) hi w.1) ?_
  rintro h9 rfl
  refine bJx4a65c_add_7a177_5 w.1 rfl rfl ?_
  have w2 := rw_obj (n2 := xs.length) (md2 := md + 1) w
  refine bJx4a65c_add_7a177_15 w2.1 rfl rfl ?_
  have key : ∀ (h3 : k_H) (cap3 t3 : Nat) (g : Nat → Option Nat), k_rw h h3 a xs.length cap3 (k_z0 G) (md + 1) t3 g → xs.length < cap3 → cap3 < 2 ^ 30 → (∀ i : Nat, i < xs.length → g i = xs[i]?) → h3.2 = (k_gr h a (xs.insertIdx i x) xs.length cap).2 → (k_gr h a (xs.insertIdx i x) xs.length cap).1 = (k_up h a (k_l (xs.insertIdx i x) cap3)).1 →
      k_X (jJx4a65c_add_7a177 G l h) h3 38 [(0, vR (some a)), (1, vI (nI i)), (2, vR (some x)), (3, vI (nI xs.length)), (4, vR (some t3))] [] (fun h2 r2 => r2 = .inl none ∧ h2.2 = (k_gr h a (xs.insertIdx i x) xs.length cap).2 ∧ ∀ H, k_hp G h2 H → k_hp G (k_gr h a (xs.insertIdx i x) xs.length cap) H) := by
    intro h3 cap3 t3 g w3 hlt hc3 hg e3 e4
    obtain ⟨z1, z2, z3, z4, z5⟩ := id w3
    rcases z5 with ⟨z5, -⟩ | ⟨z5, z6, z7⟩
    · omega
    have q1 : nI i + 1 = nI (i + 1) := nI_1 i
    have q2 : nI xs.length - nI i = nI (xs.length - i) := nI_sub hi
    refine bJx4a65c_add_7a177_38 z7 (nI_pos (by omega)) (by rw [q1]; exact nI_pos (by omega)) (by rw [q2]; exact nI_pos (by omega)) ?_ ?_ ?_ ?_
    · rw [q2, nI_clamp (by omega), nI_clamp (by omega)]; omega
    · rw [q1, q2, nI_clamp (by omega), nI_clamp (by omega)]; omega
    · rw [q2, nI_clamp (by omega), nI_clamp (by omega)]
      intro j hj z hz
      rw [hg _ (by omega)] at hz
      obtain ⟨ci, u1, u2⟩ := hel z (List.mem_of_getElem? hz)
      exact ⟨ci, rw_is (c0 := 0) ho w3 u1, u2⟩
    rw [q1, q2, nI_clamp (by omega), nI_clamp (by omega), nI_clamp (by omega)]
    have w4 := rw_row (g := va_cpy g g i (i + 1) (xs.length - i)) w3 z5
    refine bJx4a65c_add_7a177_52 (k_up_self _ _ _) (nI_in (by omega) (by omega)) (fun b hb9 => ?_) ?_
    · cases hb9
      obtain ⟨ci, u1, u2⟩ := hx
      exact ⟨ci, rw_is (c0 := 0) ho w4 u1, u2⟩
    rw [nI_clamp (by omega)]
    have w5 := rw_row (g := va_up (va_cpy g g i (i + 1) (xs.length - i)) i (some x)) w4 z5
    refine bJx4a65c_add_7a177_57 w5.1 rfl (bJx4a65c_add_7a177_64 ?_)
    have w6 := rw_obj (n2 := xs.length + 1) (md2 := md + 1) w5
    refine ⟨rfl, e3, ?_⟩
    have := rw_done (h' := k_gr h a (xs.insertIdx i x) xs.length cap) rfl w6 (by rw [List.length_insertIdx, if_pos hi]) (by rw [List.length_insertIdx, if_pos hi]; omega) hc3 (ins_get hi hg) e3.symm e4
    rw [nI_1]
    exact this
  rcases id w2.2.2.2.2 with ⟨y1, y2⟩ | ⟨y1, y2, y3⟩
  · subst y2
    refine bJx4a65c_add_7a177_28z (bJx4a65c_add_7a177_29 (fun c => absurd (by rw [← nI_0]; congr 1; omega) c) (fun _ => ?_))
    refine bJx4a65c_add_7a177_32 (k_is_o w2.1) (c_grow ok ho (by show h.2.1 ≤ h9.2.1; rw [e1]; exact Nat.le_refl _) wh w2 (by omega) (by omega) (fun i z hi => by omega)) ?_
    rintro h3 v ⟨rfl, e3, g, w3, hg⟩
    have hng : ¬ xs.length < cap := by omega
    refine bJx4a65c_add_7a177_36 (key h3 _ _ g w3 (by have := k_nc_gt cap; omega) (by have := k_nc_lt (cap := cap) (by omega); omega) (fun i hi => by omega) ?_ ?_)
    · rw [e3]
      unfold k_gr
      rw [if_neg hng]
      show (h9.2.1 + 1, h9.2.2 + k_nc cap) = (h.2.1 + 1, h.2.2 + k_nc cap)
      rw [e1]
    · unfold k_gr
      rw [if_neg hng]
      rfl
  · refine bJx4a65c_add_7a177_28 y3 (bJx4a65c_add_7a177_29 (fun c => ?_) (fun c => ?_))
    · have hlt : xs.length < cap := by
        by_cases z : xs.length = cap
        · rw [z] at c; exact absurd rfl c
        · omega
      refine key _ cap t f w2 hlt hc hf ?_ ?_
      · unfold k_gr
        rw [if_pos hlt]
        exact e1
      · unfold k_gr
        rw [if_pos hlt]
    · have heq : xs.length = cap := (nI_eq (by omega) (by omega)).mp c
      have hng : ¬ xs.length < cap := by omega
      refine bJx4a65c_add_7a177_32 (k_is_o w2.1) (c_grow ok ho (by show h.2.1 ≤ h9.2.1; rw [e1]; exact Nat.le_refl _) wh w2 heq (by omega) (fun i z hi hz => ?_)) ?_
      · rw [hf i (by omega)] at hz
        exact hel z (List.mem_of_getElem? hz)
      rintro h3 v ⟨rfl, e3, g, w3, hg⟩
      refine bJx4a65c_add_7a177_36 (key h3 _ _ g w3 (by have := k_nc_gt cap; omega) (by have := k_nc_lt (cap := cap) (by omega); omega) (fun i hi => by rw [hg i (by omega), hf i hi]) ?_ ?_)
      · rw [e3]
        unfold k_gr
        rw [if_neg hng]
        show (h9.2.1 + 1, h9.2.2 + k_nc cap) = (h.2.1 + 1, h.2.2 + k_nc cap)
        rw [e1]
      · unfold k_gr
        rw [if_neg hng]
        rfl
theorem c_removeAt (ok : k_ok G l) {h : k_H} {a cap i x : Nat} {xs : List Nat} (ho : h.1 a = some (k_l xs cap)) (hi : xs[i]? = some x) (hel : ∀ z ∈ xs, k_el h z) : k_ctr (tAL_removeAt G l) [vR (some a), vI (nI i)] h (fun h' v => h' = k_up h a (k_l (xs.eraseIdx i) cap) ∧ v = some x) := by
  have hlt : i < xs.length := (List.getElem?_eq_some_iff.mp hi).1
  refine k_ctr_of (eJx4a65c_remove_915e3 ok.2 (x_open ok.1 ho (h' := k_up h a (k_l (xs.eraseIdx i) cap)) ⟨Nat.le_refl _, Nat.le_refl _⟩ (fun h1 r1 w1 e1 => ?_) ⟨_, rfl, rfl, rfl⟩))
  obtain ⟨hlc, hc, md, t, f, w, hf⟩ := rw_open r1 w1
  refine bJx4a65c_remove_915e3_0 w.1 rfl (c_checkIndex ok (nI_pos (by omega)) (nI_lt hlt (by omega))) ?_
  rintro h2 v ⟨rfl, rfl⟩
  rcases id w.2.2.2.2 with ⟨y1, y2⟩ | ⟨y1, y2, y3⟩
  · omega
  refine bJx4a65c_remove_915e3_8 (P := fun h9 => h9.2 = (k_up h a (k_l (xs.eraseIdx i) cap)).2 ∧ ∀ H, k_hp G h9 H → k_hp G (k_up h a (k_l (xs.eraseIdx i) cap)) H) w.1 rfl y3 (nI_in (by omega) (by omega)) ?_ (fun h9 p9 => ?_)
  · refine k_ctv_of (eJx4a65c_fastRemove_b59b0 ok.2 (bJx4a65c_fastRemove_b59b0_0 w.1 rfl rfl ?_))
    have w2 := rw_obj (n2 := xs.length) (md2 := md + 1) w
    have q0 : nI xs.length - 1 = nI (xs.length - 1) := nI_sub (b := 1) (by omega)
    have q1 : nI i + 1 = nI (i + 1) := nI_1 i
    have q2 : nI (xs.length - 1) - nI i = nI (xs.length - 1 - i) := nI_sub (by omega)
    have le : (xs.eraseIdx i).length = xs.length - 1 := by rw [List.length_eraseIdx, if_pos hlt]
    refine bJx4a65c_fastRemove_b59b0_10 w2.1 rfl (fun c => ?_) (fun c => ?_)
    · rw [q0] at c ⊢
      have c1 := (nI_leI (by omega) (by omega)).mp c
      have w3 := rw_obj (n2 := xs.length - 1) (md2 := md + 1) w2
      refine bJx4a65c_fastRemove_b59b0_34 w2.1 rfl ?_
      rcases id w3.2.2.2.2 with ⟨z1, z2⟩ | ⟨z1, z2, z3⟩
      · omega
      refine bJx4a65c_fastRemove_b59b0_41 z3 (nI_in (by omega) (by omega)) (bJx4a65c_fastRemove_b59b0_43 ⟨rfl, e1, ?_⟩)
      rw [nI_clamp (by omega)]
      exact rw_done (h' := k_up h a (k_l (xs.eraseIdx i) cap)) rfl (rw_row w3 z1) le.symm (by omega) hc (era_get0 (by omega) hf) e1.symm rfl
    · rw [q0] at c ⊢
      have c1 : ¬ xs.length - 1 ≤ i := fun z => c ((nI_leI (by omega) (by omega)).mpr z)
      rcases id w2.2.2.2.2 with ⟨z1, z2⟩ | ⟨z1, z2, z3⟩
      · omega
      refine bJx4a65c_fastRemove_b59b0_22 z3 (by rw [q1]; exact nI_pos (by omega)) (nI_pos (by omega)) (by rw [q2]; exact nI_pos (by omega)) ?_ ?_ ?_ ?_
      · rw [q1, q2, nI_clamp (by omega), nI_clamp (by omega)]; omega
      · rw [q2, nI_clamp (by omega), nI_clamp (by omega)]; omega
      · rw [q1, q2, nI_clamp (by omega), nI_clamp (by omega)]
        intro j hj z hz
        rw [hf _ (by omega)] at hz
        obtain ⟨ci, u1, u2⟩ := hel z (List.mem_of_getElem? hz)
        exact ⟨ci, rw_is (c0 := 0) ho w2 u1, u2⟩
      rw [q1, q2, nI_clamp (by omega), nI_clamp (by omega), nI_clamp (by omega)]
      have w4 := rw_row (g := va_cpy f f (i + 1) i (xs.length - 1 - i)) w2 z1
      refine bJx4a65c_fastRemove_b59b0_34 w4.1 rfl ?_
      have w5 := rw_obj (n2 := xs.length - 1) (md2 := md + 1) w4
      refine bJx4a65c_fastRemove_b59b0_41 (by rw [k_up_ne _ _ w5.2.1]; exact k_up_self _ _ _) (nI_in (by omega) (by omega)) (bJx4a65c_fastRemove_b59b0_43 ⟨rfl, e1, ?_⟩)
      rw [nI_clamp (by omega)]
      exact rw_done (h' := k_up h a (k_l (xs.eraseIdx i) cap)) rfl (rw_row w5 z1) le.symm (by omega) hc (era_get hlt hf) e1.symm rfl
  · rw [nI_clamp (by omega), hf i hlt, hi]
    exact bJx4a65c_remove_915e3_24 ⟨rfl, p9⟩
end LST3
end
