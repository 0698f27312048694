/-! Math.max, Math.min -/
section KM
variable {G : k_G} {l : Launch} {y : MethodName} {cc : ByteArray} {mL : Nat} {rt : Option FieldType} {d : Nat} {h0 h h' : k_H} {pc : Nat} {lv : k_L} {st : List k_V} {r : k_R}
theorem j_mmax {idx : Nat} {x z : Int32} (hdg : decode cc pc = .ok (.invokestatic idx, 3)) (h1 : Cond.methodLink y.cls idx Lib.Math.max.name ∈ k_tbl) (h2 : Cond.static Lib.Math.max.name ∈ k_tbl) (h3 : Cond.initialized "java/lang/Math" ∈ k_tbl) (h4 : Cond.code Lib.Math.max.name Lib.Math.max.code 2 (some .int) ∈ k_tbl) (hd : 1 ≤ d) (hst : (st.map k_cat).sum ≤ 8) (K : k_J G l y cc mL rt d h0 h (pc + 3) lv (vI (if x < z then z else x) :: st) h' r) : k_J G l y cc mL rt d h0 h pc lv (vI z :: vI x :: st) h' r :=
  ⟨K.1, K.2.1, fun p e s m args below meth c C ht H locs k n ls hp hl hk hn hv => by
    have hts := C.2.2.2.2.2.1
    have o1 := K.1
    have o2 := K.2.1
    exact va_mmax C.1 C.2.1 (by rw [hv.1, C.2.2.2.1]) C.2.2.2.2.1 (hts _ h1) (hts _ h2) (hts _ h3) (hts _ h4) hd (by rw [k_catR]; show _ ≤ 40 * d; omega) (by show k ≤ h'.2.1 - h0.2.1; omega) (by show n ≤ h'.2.2 - h0.2.2; omega) hdg (K.2.2 p e s m args below meth c C ht H locs k n ls hp hl hk hn hv)⟩
theorem j_mmin {idx : Nat} {x z : Int32} (hdg : decode cc pc = .ok (.invokestatic idx, 3)) (h1 : Cond.methodLink y.cls idx Lib.Math.min.name ∈ k_tbl) (h2 : Cond.static Lib.Math.min.name ∈ k_tbl) (h3 : Cond.initialized "java/lang/Math" ∈ k_tbl) (h4 : Cond.code Lib.Math.min.name Lib.Math.min.code 2 (some .int) ∈ k_tbl) (hd : 1 ≤ d) (hst : (st.map k_cat).sum ≤ 8) (K : k_J G l y cc mL rt d h0 h (pc + 3) lv (vI (if z < x then z else x) :: st) h' r) : k_J G l y cc mL rt d h0 h pc lv (vI z :: vI x :: st) h' r :=
  ⟨K.1, K.2.1, fun p e s m args below meth c C ht H locs k n ls hp hl hk hn hv => by
    have hts := C.2.2.2.2.2.1
    have o1 := K.1
    have o2 := K.2.1
    exact va_mmin C.1 C.2.1 (by rw [hv.1, C.2.2.2.1]) C.2.2.2.2.1 (hts _ h1) (hts _ h2) (hts _ h3) (hts _ h4) hd (by rw [k_catR]; show _ ≤ 40 * d; omega) (by show k ≤ h'.2.1 - h0.2.1; omega) (by show n ≤ h'.2.2 - h0.2.2; omega) hdg (K.2.2 p e s m args below meth c C ht H locs k n ls hp hl hk hn hv)⟩
theorem j_mmaxL {idx : Nat} {x z : Int64} (hdg : decode cc pc = .ok (.invokestatic idx, 3)) (h1 : Cond.methodLink y.cls idx Lib.MathLoose.max_long.x ∈ k_tbl) (h2 : Cond.static Lib.MathLoose.max_long.x ∈ k_tbl) (h3 : Cond.initialized "java/lang/Math" ∈ k_tbl) (h4 : Cond.code Lib.MathLoose.max_long.x Lib.MathLoose.max_long.code 4 (some .long) ∈ k_tbl) (hd : 1 ≤ d) (hst : (st.map k_cat).sum ≤ 8) (K : k_J G l y cc mL rt d h0 h (pc + 3) lv (vJ (if z < x then x else z) :: st) h' r) : k_J G l y cc mL rt d h0 h pc lv (vJ z :: vJ x :: st) h' r :=
  ⟨K.1, K.2.1, fun p e s m args below meth c C ht H locs k n ls hp hl hk hn hv => by
    have hts := C.2.2.2.2.2.1
    have o1 := K.1
    have o2 := K.2.1
    exact va_mmax_long C.1 C.2.1 (by rw [hv.1, C.2.2.2.1]) C.2.2.2.2.1 (hts _ h1) (hts _ h2) (hts _ h3) (hts _ h4) hd (by rw [k_catR]; show _ ≤ 40 * d; omega) (by show k ≤ h'.2.1 - h0.2.1; omega) (by show n ≤ h'.2.2 - h0.2.2; omega) hdg (K.2.2 p e s m args below meth c C ht H locs k n ls hp hl hk hn hv)⟩
theorem j_mminL {idx : Nat} {x z : Int64} (hdg : decode cc pc = .ok (.invokestatic idx, 3)) (h1 : Cond.methodLink y.cls idx Lib.MathLoose.min_long.x ∈ k_tbl) (h2 : Cond.static Lib.MathLoose.min_long.x ∈ k_tbl) (h3 : Cond.initialized "java/lang/Math" ∈ k_tbl) (h4 : Cond.code Lib.MathLoose.min_long.x Lib.MathLoose.min_long.code 4 (some .long) ∈ k_tbl) (hd : 1 ≤ d) (hst : (st.map k_cat).sum ≤ 8) (K : k_J G l y cc mL rt d h0 h (pc + 3) lv (vJ (if z < x then z else x) :: st) h' r) : k_J G l y cc mL rt d h0 h pc lv (vJ z :: vJ x :: st) h' r :=
  ⟨K.1, K.2.1, fun p e s m args below meth c C ht H locs k n ls hp hl hk hn hv => by
    have hts := C.2.2.2.2.2.1
    have o1 := K.1
    have o2 := K.2.1
    exact va_mmin_long C.1 C.2.1 (by rw [hv.1, C.2.2.2.1]) C.2.2.2.2.1 (hts _ h1) (hts _ h2) (hts _ h3) (hts _ h4) hd (by rw [k_catR]; show _ ≤ 40 * d; omega) (by show k ≤ h'.2.1 - h0.2.1; omega) (by show n ≤ h'.2.2 - h0.2.2; omega) hdg (K.2.2 p e s m args below meth c C ht H locs k n ls hp hl hk hn hv)⟩
end KM
/-! THE JUDGEMENT WITH A POSTCONDITION; contracts by the kind of their answer -/
abbrev k_T : Type := List k_V → k_H → k_H → k_R → Prop
abbrev k_B : Type := k_H → Nat → k_L → List k_V → k_H → k_R → Prop
def k_X (J : k_B) (h : k_H) (pc : Nat) (lv : k_L) (st : List k_V) (Q : k_H → k_R → Prop) : Prop := ∃ (h' : k_H) (r : k_R), J h pc lv st h' r ∧ Q h' r
def k_ct (T : k_T) (as : List k_V) (h : k_H) (Q : k_H → k_R → Prop) : Prop := ∃ (h' : k_H) (r : k_R), T as h h' r ∧ Q h' r
def k_cti (T : k_T) (as : List k_V) (h : k_H) (P : k_H → Int32 → Prop) : Prop := ∃ (h' : k_H) (v : Int32), T as h h' (.inl (some (vI v))) ∧ P h' v
def k_ctj (T : k_T) (as : List k_V) (h : k_H) (P : k_H → Int64 → Prop) : Prop := ∃ (h' : k_H) (v : Int64), T as h h' (.inl (some (vJ v))) ∧ P h' v
def k_ctr (T : k_T) (as : List k_V) (h : k_H) (P : k_H → Option Nat → Prop) : Prop := ∃ (h' : k_H) (v : Option Nat), T as h h' (.inl (some (vR v))) ∧ P h' v
def k_ctv (T : k_T) (as : List k_V) (h : k_H) (P : k_H → Prop) : Prop := ∃ h' : k_H, T as h h' (.inl none) ∧ P h'
def k_ctx (T : k_T) (as : List k_V) (h : k_H) (E : String) (P : k_H → Prop) : Prop := ∃ h' : k_H, T as h h' (.inr E) ∧ P h'
abbrev q_i (P : k_H → Int32 → Prop) : k_H → k_R → Prop := fun h' r => ∃ v, r = .inl (some (vI v)) ∧ P h' v
abbrev q_j (P : k_H → Int64 → Prop) : k_H → k_R → Prop := fun h' r => ∃ v, r = .inl (some (vJ v)) ∧ P h' v
abbrev q_r (P : k_H → Option Nat → Prop) : k_H → k_R → Prop := fun h' r => ∃ v, r = .inl (some (vR v)) ∧ P h' v
abbrev q_v (P : k_H → Prop) : k_H → k_R → Prop := fun h' r => r = .inl none ∧ P h'
abbrev q_x (E : String) (P : k_H → Prop) : k_H → k_R → Prop := fun h' r => r = .inr E ∧ P h'
theorem k_cti_of {T : k_T} {as : List k_V} {h : k_H} {P : k_H → Int32 → Prop} (c : k_ct T as h (q_i P)) : k_cti T as h P := by
  obtain ⟨h', r, t, v, rfl, p⟩ := c
  exact ⟨h', v, t, p⟩
theorem k_ctj_of {T : k_T} {as : List k_V} {h : k_H} {P : k_H → Int64 → Prop} (c : k_ct T as h (q_j P)) : k_ctj T as h P := by
  obtain ⟨h', r, t, v, rfl, p⟩ := c
  exact ⟨h', v, t, p⟩
theorem k_ctr_of {T : k_T} {as : List k_V} {h : k_H} {P : k_H → Option Nat → Prop} (c : k_ct T as h (q_r P)) : k_ctr T as h P := by
  obtain ⟨h', r, t, v, rfl, p⟩ := c
  exact ⟨h', v, t, p⟩
theorem k_ctv_of {T : k_T} {as : List k_V} {h : k_H} {P : k_H → Prop} (c : k_ct T as h (q_v P)) : k_ctv T as h P := by
  obtain ⟨h', r, t, rfl, p⟩ := c
  exact ⟨h', t, p⟩
theorem k_ctx_of {T : k_T} {as : List k_V} {h : k_H} {E : String} {P : k_H → Prop} (c : k_ct T as h (q_x E P)) : k_ctx T as h E P := by
  obtain ⟨h', r, t, rfl, p⟩ := c
  exact ⟨h', t, p⟩
/-- fields written one after the other -/
theorem k_gs {fs : List k_V} {i j : Nat} {v w : k_V} (hij : i ≠ j) (h : fs[j]? = some v) : (fs.set i w)[j]? = some v := (List.getElem?_set_ne hij).trans h
theorem k_ss {fs : List k_V} {i n : Nat} {w : k_V} (hl : fs.length = n) (hi : i < n) : (fs.set i w)[i]? = some w := List.getElem?_set_self (by omega)
theorem k_ls {fs : List k_V} {i n : Nat} {w : k_V} (hl : fs.length = n) : (fs.set i w).length = n := (List.length_set ..).trans hl
theorem k_ln {fs : List k_V} {i n : Nat} (hl : fs.length = n) (hi : i < n) : i < fs.length := by omega
theorem k_uu (h : k_H) (a : Nat) (c c2 : k_C) : k_up (k_up h a c) a c2 = k_up h a c2 := by
  unfold k_up
  congr 1
  funext q
  by_cases e : q = a <;> simp [e]
