/-! THE LAW'S WORLD: the class's, five rows of ints behind its constructor, or a heap that nobody holds -/
def lp_sz (j : Nat) : Nat := if j = 0 then 5 else if j = 2 then 60 else 20
abbrev lp_A : Type := Nat → Nat → Int32
def lp_c (b : Nat) (A : lp_A) (q : Nat) : k_C := k_i (lp_sz (q - b)) (A (q - b))
/-- the rows lie at a + 31 to a + 35; where po holds, one cell makes that no machine holds it -/
def lp_hp (a : Nat) (A : lp_A) (po : Bool) (h : k_H) : k_H := (fun q => if a + 31 ≤ q ∧ q < a + 36 then some (lp_c (a + 31) A q) else if po = true ∧ q = h.2.1 then some (k_l [] (2 ^ 30)) else h.1 q, h.2)
theorem lp_hp_f {a : Nat} {A : lp_A} {h : k_H} : lp_hp a A false h = k_jn (a + 31) (a + 36) (lp_c (a + 31) A) h := by
  unfold lp_hp k_jn
  refine Prod.ext (funext fun q => ?_) rfl
  show (if a + 31 ≤ q ∧ q < a + 36 then some (lp_c (a + 31) A q) else if false = true ∧ q = h.2.1 then _ else h.1 q) = if a + 31 ≤ q ∧ q < a + 36 then some (lp_c (a + 31) A q) else h.1 q
  by_cases z : a + 31 ≤ q ∧ q < a + 36
  · rw [if_pos z, if_pos z]
  · rw [if_neg z, if_neg z, if_neg (fun e => by cases e.1)]
theorem lp_row {a j : Nat} {A : lp_A} {po : Bool} {h : k_H} (hj : j < 5) : (lp_hp a A po h).1 (a + 31 + j) = some (k_i (lp_sz j) (A j)) := by
  show (if a + 31 ≤ a + 31 + j ∧ a + 31 + j < a + 36 then some (lp_c (a + 31) A (a + 31 + j)) else _) = _
  rw [if_pos (by omega)]
  unfold lp_c
  rw [Nat.add_sub_cancel_left]
def lp_set (A : lp_A) (j : Nat) (f : Nat → Int32) : lp_A := fun q => if q = j then f else A q
theorem lp_up {a j : Nat} {A : lp_A} {po : Bool} {h : k_H} {f : Nat → Int32} (hj : j < 5) : k_up (lp_hp a A po h) (a + 31 + j) (k_i (lp_sz j) f) = lp_hp a (lp_set A j f) po h := by
  refine Prod.ext (funext fun q => ?_) rfl
  show (if q = a + 31 + j then some (k_i (lp_sz j) f) else if a + 31 ≤ q ∧ q < a + 36 then some (lp_c (a + 31) A q) else _) = if a + 31 ≤ q ∧ q < a + 36 then some (lp_c (a + 31) (lp_set A j f) q) else _
  by_cases z : q = a + 31 + j
  · rw [if_pos z, if_pos (by omega), z]
    unfold lp_c lp_set
    rw [Nat.add_sub_cancel_left, if_pos rfl]
  · rw [if_neg z]
    by_cases y : a + 31 ≤ q ∧ q < a + 36
    · rw [if_pos y, if_pos y]
      unfold lp_c lp_set
      rw [if_neg (by omega)]
    · rw [if_neg y, if_neg y]
theorem lp_nl {b : Nat} {A : lp_A} : ∀ q xs cap, lp_c b A q ≠ k_l xs cap := fun q xs cap e => by cases e
theorem lp_at {a q : Nat} {A : lp_A} {h : k_H} (hq : q < a + 31) (hh : q < h.2.1) {po : Bool} : (lp_hp a A po h).1 q = h.1 q := by
  show (if a + 31 ≤ q ∧ q < a + 36 then _ else if po = true ∧ q = h.2.1 then _ else h.1 q) = _
  rw [if_neg (by omega), if_neg (by omega)]
theorem lp_no {G : k_G} {a : Nat} {A : lp_A} {h : k_H} {H : Heap} (hp : k_hp G (lp_hp a A true h) H) (hb : a + 36 ≤ h.2.1) : False := by
  obtain ⟨-, -, -, F, ow, h1, h2⟩ := hp
  have e : (lp_hp a A true h).1 h.2.1 = some (k_l [] (2 ^ 30)) := by
    show (if a + 31 ≤ h.2.1 ∧ h.2.1 < a + 36 then _ else if true = true ∧ h.2.1 = h.2.1 then some (k_l [] (2 ^ 30)) else _) = _
    rw [if_neg (by omega), if_pos ⟨rfl, rfl⟩]
  obtain ⟨md, t, -, -, g3, -⟩ := h2 _ _ e
  omega
/-- counted: i calls that change, q objects more -/
def lp_I (i q : Nat) (M : s_M) (N w : Nat) : Prop := ∃ N0, i_I i M N0 w ∧ N ≤ N0 + q
def lp_B (a : Nat) : Nat × Nat := (a + 36, (13 + 141) + 125)
def lp_W (a : Nat) (A : lp_A) (i q : Nat) (M : s_M) (H : k_H) : Prop := ∃ (h : k_H) (N w : Nat) (po : Bool), H = lp_hp a A po h ∧ (po = false → k_cn (a + 31) (a + 36) h) ∧ a + 36 ≤ h.2.1 ∧ c_W a (lp_B a) h M N w ∧ lp_I i q M N w
theorem lp_is {a i q : Nat} {A : lp_A} {M : s_M} {H : k_H} (W : lp_W a A i q M H) : k_is H a 14 := by
  obtain ⟨h, N, w, po, rfl, -, hb, W, -⟩ := W
  refine k_is_o (fs := _) ((lp_at (by omega) (by omega)).trans (W_ob W).1)
theorem lp_atom {a i q j : Nat} {A : lp_A} {M : s_M} {H : k_H} (W : lp_W a A i q M H) (hj : j < 5) : H.1 (a + 31 + j) = some (k_i (lp_sz j) (A j)) := by
  obtain ⟨h, N, w, po, rfl, -⟩ := W
  exact lp_row hj
theorem lp_put {a i q j : Nat} {A : lp_A} {M : s_M} {H : k_H} {f : Nat → Int32} (W : lp_W a A i q M H) (hj : j < 5) : lp_W a (lp_set A j f) i q M (k_up H (a + 31 + j) (k_i (lp_sz j) f)) := by
  obtain ⟨h, N, w, po, rfl, W⟩ := W
  exact ⟨h, N, w, po, lp_up hj, W⟩
theorem lp_mono {a i q q' : Nat} {A : lp_A} {M : s_M} {H : k_H} (W : lp_W a A i q M H) (hq : q ≤ q') : lp_W a A i q' M H := by
  obtain ⟨h, N, w, po, e, c, b, W, N0, I, hN⟩ := W
  exact ⟨h, N, w, po, e, c, b, W, N0, I, by omega⟩
theorem lp_size {a i N w q : Nat} {h : k_H} {M : s_M} (W : c_W a (lp_B a) h M N w) (I : lp_I i q M N w) (hi : i ≤ 512) (hq : q ≤ 70000) : h.2.1 ≤ a + 638100 ∧ h.2.2 ≤ 4700000 := by
  obtain ⟨N0, I, hN⟩ := I
  have sz := I_size I hi
  obtain ⟨Q, S, PS, ⟨KS, L, WS, z, -, ⟨⟨-, -, r1⟩, ⟨-, r2⟩, r3, -⟩, ⟨-, r4⟩, rS⟩, -, -, c1, c2, c3⟩ := W
  have r5 : WS.length = (g_E M).2.2.length := by rw [← r3, List.length_map]
  have t1 : kT kg1 a h ≤ 5000 := Nat.le_trans (sum_le _ (fun j hj => kg1_mono (c3 j (List.mem_range.mp hj)))) bd_1
  have t2 : kT kg2 a h ≤ 900000 := Nat.le_trans (sum_le _ (fun j hj => Nat.mul_le_mul_left 5 (c3 j (List.mem_range.mp hj)))) bd_2
  have b1 : (lp_B a).1 = a + 36 := rfl
  have b2 : (lp_B a).2 = 13 + 141 + 125 := rfl
  rw [b1] at c1
  rw [b2] at c2
  omega
theorem lp_end {a i q : Nat} {A : lp_A} {M : s_M} {H : k_H} (W : lp_W a A i q M H) (hi : i ≤ 512) (hq : q ≤ 70000) : H.2.1 ≤ a + 638100 ∧ H.2.2 ≤ 4700000 := by
  obtain ⟨h, N, w, po, rfl, -, -, W, I⟩ := W
  exact lp_size (h := h) W I hi hq
section PFR
variable {G : k_G} {l : Launch} {y : MethodName} {cc : ByteArray} {mL : Nat} {rt : Option FieldType} {d : Nat} {as : List k_V} {h h' : k_H} {r : k_R} {a : Nat} {A : lp_A} {po : Bool}
theorem lp_vac (hb : a + 36 ≤ h.2.1) (C : k_Ct (k_fG G (a + 31) (a + 36)) l y cc mL rt d as h h' r) : k_Ct G l y cc mL rt d as (lp_hp a A true h) (lp_hp a A true h') r :=
  ⟨C.1, C.2.1, MetFree.mono C.2.2 (fun a s hp => (lp_no hp.2.1 hb).elim) (fun _ _ _ _ _ h => h) (fun a s o t hP hq => (lp_no hP.2.1 hb).elim)⟩
theorem lp_fro (g0 : k_fh G = 0) (cn : po = false → k_cn (a + 31) (a + 36) h) (hb : a + 36 ≤ h.2.1) (C : k_Ct (k_fG G (a + 31) (a + 36)) l y cc mL rt d as h h' r) :
    ∃ po', (po' = false → k_cn (a + 31) (a + 36) h') ∧ k_Ct G l y cc mL rt d as (lp_hp a A po h) (lp_hp a A po' h') r := by
  cases po with
  | true => exact ⟨true, fun z => (by cases z), lp_vac hb C⟩
  | false =>
    have cn := cn rfl
    by_cases z : k_cn (a + 31) (a + 36) h'
    · refine ⟨false, fun _ => z, ?_⟩
      rw [lp_hp_f, lp_hp_f]
      exact k_fro1 cn hb C g0 (fun H H1 a b e => hp_fro g0 lp_nl a b e)
    · refine ⟨true, fun z => (by cases z), ?_⟩
      rw [lp_hp_f]
      exact k_fro1 cn hb C g0 (fun H H1 a b e => absurd (hp_cln b) z)
/-- what a call answers: its value, or what is thrown -/
def lp_r (R : s_M × Nat × Int32) (X : Nat → String) : k_R := if R.2.1 = 0 then .inl (some (vI R.2.2)) else .inr (X R.2.1)
def lp_rv (R : s_M × Nat × Int32) (X : Nat → String) : k_R := if R.2.1 = 0 then .inl none else .inr (X R.2.1)
/-- THE CALL: a contract of the class's over its own world, as one over the law's -/
theorem lp_call {N N' w w' i i' q q' : Nat} {M : s_M} {R : s_M × Nat × Int32} {X : Nat → String} (g0 : k_fh G = 0) (cn : po = false → k_cn (a + 31) (a + 36) h) (hb : a + 36 ≤ h.2.1) (C : k_ct (k_Ct (k_fG G (a + 31) (a + 36)) l y cc mL rt d) as h (c_R a (lp_B a) R X N' w')) (J : lp_I i' q' R.1 N' w') :
    k_ct (k_Ct G l y cc mL rt d) as (lp_hp a A po h) (fun H' r => lp_W a A i' q' R.1 H' ∧ r = lp_r R X) := by
  obtain ⟨h1, r, C1, W1, rfl⟩ := C
  obtain ⟨po', cn', C2⟩ := lp_fro (A := A) g0 cn hb C1
  exact ⟨_, _, C2, ⟨h1, N', w', po', rfl, cn', Nat.le_trans hb C1.1, W1, J⟩, rfl⟩
theorem lp_callv {N N' w w' i i' q q' : Nat} {M : s_M} {R : s_M × Nat × Int32} {X : Nat → String} (g0 : k_fh G = 0) (cn : po = false → k_cn (a + 31) (a + 36) h) (hb : a + 36 ≤ h.2.1) (C : k_ct (k_Ct (k_fG G (a + 31) (a + 36)) l y cc mL rt d) as h (c_Rv a (lp_B a) R X N' w')) (J : lp_I i' q' R.1 N' w') :
    k_ct (k_Ct G l y cc mL rt d) as (lp_hp a A po h) (fun H' r => lp_W a A i' q' R.1 H' ∧ r = lp_rv R X) := by
  obtain ⟨h1, r, C1, W1, rfl⟩ := C
  obtain ⟨po', cn', C2⟩ := lp_fro (A := A) g0 cn hb C1
  exact ⟨_, _, C2, ⟨h1, N', w', po', rfl, cn', Nat.le_trans hb C1.1, W1, J⟩, rfl⟩
end PFR
theorem lp_I1 {i i' q N N0 N' w w' c : Nat} {M M' : s_M} (hN : N ≤ N0 + q) (J : i_I i' M' (N0 + c) w') (hN' : N' = N + c) : lp_I i' q M' N' w' := ⟨N0 + c, J, by omega⟩
theorem lp_I0 {i q N N0 N' w c : Nat} {M M' : s_M} (hN : N ≤ N0 + q) (J : i_I i M N0 w) (e : M' = M) (hN' : N' = N + c) : lp_I i (q + c) M' N' w := ⟨N0, by rw [e]; exact J, by omega⟩
/-- a call that answers a value -/
theorem lp_cti {T : k_T} {as : List k_V} {H : k_H} {P : k_H → Prop} {R : s_M × Nat × Int32} {X : Nat → String} (c : k_ct T as H (fun H' r => P H' ∧ r = lp_r R X)) (h0 : R.2.1 = 0) : k_cti T as H (fun H' v => P H' ∧ v = R.2.2) := by
  obtain ⟨h', r, c1, p, e⟩ := c
  rw [show lp_r R X = .inl (some (vI R.2.2)) from if_pos h0] at e
  subst e
  exact ⟨h', _, c1, p, rfl⟩
theorem lp_ctv {T : k_T} {as : List k_V} {H : k_H} {P : k_H → Prop} {R : s_M × Nat × Int32} {X : Nat → String} (c : k_ct T as H (fun H' r => P H' ∧ r = lp_rv R X)) (h0 : R.2.1 = 0) : k_ctv T as H P := by
  obtain ⟨h', r, c1, p, e⟩ := c
  rw [show lp_rv R X = .inl none from if_pos h0] at e
  subst e
  exact ⟨h', c1, p⟩
theorem lp_ctx {T : k_T} {as : List k_V} {H : k_H} {P : k_H → Prop} {R : s_M × Nat × Int32} {X : Nat → String} (c : k_ct T as H (fun H' r => P H' ∧ r = lp_rv R X)) (h0 : ¬ R.2.1 = 0) : k_ctx T as H (X R.2.1) P := by
  obtain ⟨h', r, c1, p, e⟩ := c
  rw [show lp_rv R X = .inr (X R.2.1) from if_neg h0] at e
  subst e
  exact ⟨h', c1, p⟩
