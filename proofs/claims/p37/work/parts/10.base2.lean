section
/-! ROWS THAT READ AND WRITE CELLS -/
/-- place idx of class own names field k of class ci -/
def k_fld (own : String) (idx ci k : Nat) : Prop := ∃ (C : String) (T : u_T) (N : Nat), vwCl[ci]? = some (C, T, N) ∧ k < N ∧ (∀ w ∈ u_ws C T N, w ∈ k_tbl) ∧ Cond.fieldLink own idx (T k).1 (T k).2.1 (T k).2.2.1 ∈ k_tbl
/-- .. and its type, and that it is final or not -/
def k_fldP (own : String) (idx ci k : Nat) (ty : FieldType) (fin : Bool) : Prop := ∃ (C : String) (T : u_T) (N : Nat) (ty0 : Nat → FieldType), vwCl[ci]? = some (C, T, N) ∧ k < N ∧ (∀ w ∈ u_ws C T N, w ∈ k_tbl) ∧ Cond.fieldLink own idx (T k).1 (T k).2.1 (T k).2.2.1 ∈ k_tbl ∧
  (∀ k, k < N → parseFieldDescriptor (T k).2.2.1 = some (ty0 k)) ∧ (∀ a, a < N → ∀ b, b < N → a ≠ b → (T a).2.1 ≠ (T b).2.1) ∧ (T k).2.2.2 = fin ∧ parseFieldDescriptor (T k).2.2.1 = some ty ∧ (fin = true → (T k).1 = own)
/-- a value that a field or a row of that type takes as it is -/
def k_fit (ty : FieldType) (v : k_V) : Prop := narrow ty (k_v v) = k_v v ∧ fits ty (k_v v) = true
theorem k_fit_i (x : Int32) : k_fit .int (vI x) := ⟨rfl, rfl⟩
theorem k_fit_j (x : Int64) : k_fit .long (vJ x) := ⟨rfl, rfl⟩
theorem k_fit_z {x : Int32} (h : k_bl x) : k_fit .boolean (vI x) := by rcases h with rfl | rfl <;> exact ⟨rfl, rfl⟩
theorem k_fit_r (C : String) (x : Option Nat) : k_fit (.object C) (vR x) := by cases x <;> exact ⟨rfl, rfl⟩
theorem k_fit_a (t : FieldType) (x : Option Nat) : k_fit (.array t) (vR x) := by cases x <;> exact ⟨rfl, rfl⟩
/-- making objects of class ci by place idx of own: their fields at first -/
def k_cls (own : String) (idx ci N : Nat) (fs : List k_V) : Prop := ∃ (C : String) (T : u_T) (ty : Nat → FieldType), vwCl[ci]? = some (C, T, N) ∧ (∀ w ∈ u_ws C T N, w ∈ k_tbl) ∧ (∀ k, k < N → parseFieldDescriptor (T k).2.2.1 = some (ty k)) ∧ Cond.classLink own idx C ∈ k_tbl ∧ Cond.instantiable C N ∈ k_tbl ∧ Cond.initialized C ∈ k_tbl ∧ (∀ j, j < N → defaultValue (ty j) = vp_V (fs.map k_v) j)
theorem k_hp_cell {G : k_G} {h : k_H} {H : Heap} (hp : k_hp G h H) {a : Nat} {ci : Nat} {fs : List k_V} (ho : h.1 a = some (k_o ci fs)) : va_at (k_D G) vwCl (a, .inr (ci, fs.map k_v)) H := by
  obtain ⟨-, -, -, F, ow, h1, h2⟩ := hp
  exact (h1 _ _ (h2 _ _ ho)).2
theorem k_hp_i {G : k_G} {h : k_H} {H : Heap} (hp : k_hp G h H) {a n : Nat} {f : Nat → Int32} (ho : h.1 a = some (k_i n f)) : va_at (k_D G) vwCl (a, .inl (k_cI G, n, .inl f)) H := by
  obtain ⟨-, -, -, F, ow, h1, h2⟩ := hp
  exact (h1 _ _ (h2 _ _ ho)).2
theorem k_hp_j {G : k_G} {h : k_H} {H : Heap} (hp : k_hp G h H) {a n : Nat} {f : Nat → Int64} (ho : h.1 a = some (k_j n f)) : va_at (k_D G) vwCl (a, .inl (k_cJ G, n, .inr (.inl f))) H := by
  obtain ⟨-, -, -, F, ow, h1, h2⟩ := hp
  exact (h1 _ _ (h2 _ _ ho)).2
theorem k_hp_z {G : k_G} {h : k_H} {H : Heap} (hp : k_hp G h H) {a n : Nat} {f : Nat → Int32} (ho : h.1 a = some (k_z n f)) : va_at (k_D G) vwCl (a, .inl (k_cZ G, n, .inl f)) H := by
  obtain ⟨-, -, -, F, ow, h1, h2⟩ := hp
  exact (h1 _ _ (h2 _ _ ho)).2
theorem k_hp_l {G : k_G} {h : k_H} {H : Heap} (hp : k_hp G h H) {a cap : Nat} {xs : List Nat} (ho : h.1 a = some (k_l xs cap)) : ∃ (md : Int32) (t : Nat), va_at (k_D G) vwCl (a, .inr (2, [.int md, .ref t, .int (nI xs.length)])) H := by
  obtain ⟨-, -, -, F, ow, h1, h2⟩ := hp
  obtain ⟨md, t, h3, -⟩ := h2 _ _ ho
  exact ⟨md, t, (h1 _ _ h3).2⟩
/-- a cell that is no list's changes: the world behind it -/
theorem k_hp_set {G : k_G} {h : k_H} {H H1 : Heap} (hp : k_hp G h H) {a : Nat} {c0 c : k_C} {e : va_E} (ho : h.1 a = some c0) (hn0 : ∀ xs cap, c0 ≠ k_l xs cap) (hz : H1.size = H.size) (hq : ∀ q : Nat, q ≠ a → H1[q]? = H[q]?) (hat : va_at (k_D G) vwCl (a, e) H1)
    (hden : ∀ (m : Nat → Option k_C) (F : Nat → Option va_E) (ow : Nat → Nat), F a = some e → k_den G m F ow a c) : k_hp G (k_up h a c) H1 := by
  obtain ⟨p1, p2, p3, F, ow, h1, h2⟩ := hp
  have hFa : ∃ e0, F a = some e0 := by
    have := h2 _ _ ho
    rcases c0 with ⟨ci, fs⟩ | ⟨n, f⟩ | ⟨n, f⟩ | ⟨n, f⟩ | ⟨xs, cap⟩ | ⟨n, f⟩
    · exact ⟨_, this⟩
    · exact ⟨_, this⟩
    · exact ⟨_, this⟩
    · exact ⟨_, this⟩
    · exact absurd rfl (hn0 xs cap)
    · exact ⟨_, this⟩
  obtain ⟨e0, hFa⟩ := hFa
  have ha := (h1 _ _ hFa).1
  have ha0 := ha.1
  refine ⟨by rw [hz]; exact p1, by rw [hz]; exact p2, fun q hq1 => by rw [hq q (by omega)]; exact p3 q hq1, fun q => if q = a then some e else F q, ow, fun q e1 he => ?_, fun q c1 hc => ?_⟩
  · by_cases hqa : q = a
    · subst hqa
      simp at he
      subst he
      exact ⟨ha, hat⟩
    · simp only [hqa, if_false] at he
      obtain ⟨k1, k2⟩ := h1 _ _ he
      exact ⟨k1, k2.kept (hq q hqa)⟩
  · by_cases hqa : q = a
    · subst hqa
      rw [k_up_self] at hc
      cases hc
      exact hden _ _ _ (by simp)
    · rw [k_up_ne _ _ hqa] at hc
      have h3 := h2 _ _ hc
      have keepF : ∀ z, z ≠ a → (if z = a then some e else F z) = F z := fun z hz => if_neg hz
      rcases c1 with ⟨ci, fs⟩ | ⟨n, f⟩ | ⟨n, f⟩ | ⟨n, f⟩ | ⟨xs, cap⟩ | ⟨n, f⟩
      rotate_right
      · exact (keepF q hqa).trans h3
      · exact (keepF q hqa).trans h3
      · exact (keepF q hqa).trans h3
      · exact (keepF q hqa).trans h3
      · exact (keepF q hqa).trans h3
      · obtain ⟨md, t, g1, g2, g3, g4⟩ := h3
        refine ⟨md, t, (keepF q hqa).trans g1, g2, g3, ?_⟩
        rcases g4 with ⟨g5, g6⟩ | ⟨g5, g6, g7, f, g8, g9⟩
        · exact Or.inl ⟨g5, g6⟩
        · have hta : t ≠ a := fun z => by subst z; rw [ho] at g6; cases g6
          exact Or.inr ⟨g5, by rw [k_up_ne _ _ hta]; exact g6, g7, f, (keepF t hta).trans g8, g9⟩
/-- a cell is made -/
theorem k_hp_new {G : k_G} {h : k_H} {H H1 : Heap} (hp : k_hp G h H) {n : Nat} {c : k_C} {e : va_E} (hz : H1.size = H.size + 1) (hq : ∀ q : Nat, q < H.size → H1[q]? = H[q]?) (hat : va_at (k_D G) vwCl (H.size, e) H1)
    (hden : ∀ (m : Nat → Option k_C) (F : Nat → Option va_E) (ow : Nat → Nat), F H.size = some e → k_den G m F ow H.size c) : k_hp G (k_nw h n c) H1 := by
  obtain ⟨p1, p2, p3, F, ow, h1, h2⟩ := hp
  have hlt : ∀ q e1, F q = some e1 → q < H.size := fun q e1 he => (h1 _ _ he).2.lt
  have hmlt : ∀ q c1, h.1 q = some c1 → q < H.size := fun q c1 hc => by
    have h3 := h2 _ _ hc
    rcases c1 with ⟨ci, fs⟩ | ⟨n, f⟩ | ⟨n, f⟩ | ⟨n, f⟩ | ⟨xs, cap⟩ | ⟨n, f⟩
    rotate_right
    · exact hlt _ _ h3
    · exact hlt _ _ h3
    · exact hlt _ _ h3
    · exact hlt _ _ h3
    · exact hlt _ _ h3
    · obtain ⟨md, t, g1, -⟩ := h3
      exact hlt _ _ g1
  have p20 := p2.1
  have p21 := p2.2
  refine ⟨by rw [hz, p1]; rfl, ⟨by omega, by omega⟩, fun q hq1 => by rw [hq q (by omega)]; exact p3 q hq1, fun q => if q = H.size then some e else F q, ow, fun q e1 he => ?_, fun q c1 hc => ?_⟩
  · by_cases hqa : q = H.size
    · subst hqa
      simp at he
      subst he
      exact ⟨⟨p2.1, Or.inr p2.2⟩, hat⟩
    · simp only [hqa, if_false] at he
      obtain ⟨k1, k2⟩ := h1 _ _ he
      exact ⟨k1, k2.kept (hq q (hlt _ _ he))⟩
  · by_cases hqa : q = H.size
    · subst hqa
      have hc' : (k_nw h n c).1 h.2.1 = some c1 := by rw [← p1]; exact hc
      rw [k_nw_self] at hc'
      cases hc'
      exact hden _ _ _ (by simp)
    · have hc' : h.1 q = some c1 := by rw [← k_nw_ne h n c (b := q) (by rw [← p1]; exact hqa)]; exact hc
      have h3 := h2 _ _ hc'
      have keepF : ∀ z, z ≠ H.size → (if z = H.size then some e else F z) = F z := fun z hz => if_neg hz
      rcases c1 with ⟨ci, fs⟩ | ⟨n, f⟩ | ⟨n, f⟩ | ⟨n, f⟩ | ⟨xs, cap⟩ | ⟨n, f⟩
      rotate_right
      · exact (keepF q hqa).trans h3
      · exact (keepF q hqa).trans h3
      · exact (keepF q hqa).trans h3
      · exact (keepF q hqa).trans h3
      · exact (keepF q hqa).trans h3
      · obtain ⟨md, t, g1, g2, g3, g4⟩ := h3
        refine ⟨md, t, (keepF q hqa).trans g1, g2, g3, ?_⟩
        rcases g4 with ⟨g5, g6⟩ | ⟨g5, g6, g7, f, g8, g9⟩
        · exact Or.inl ⟨g5, g6⟩
        · have hta : t ≠ H.size := Nat.ne_of_lt (hlt _ _ g8)
          exact Or.inr ⟨g5, by rw [k_nw_ne _ _ _ (by rw [← p1]; exact hta)]; exact g6, g7, f, (keepF t hta).trans g8, g9⟩
section KJH
variable {G : k_G} {l : Launch} {y : MethodName} {cc : ByteArray} {mL : Nat} {rt : Option FieldType} {d : Nat} {h0 h h' : k_H} {pc : Nat} {lv : k_L} {st : List k_V} {r : k_R}
theorem k_mv {fs : List k_V} {k : Nat} {v : k_V} (h : fs[k]? = some v) : (fs.map k_v)[k]? = some (k_v v) := by rw [List.getElem?_map, h]; rfl
theorem j_getf {a idx ci k : Nat} {fs : List k_V} {v : k_V} (hdg : decode cc pc = .ok (.getfield idx, 3)) (hf : k_fld y.cls idx ci k) (ho : h.1 a = some (k_o ci fs)) (hv9 : fs[k]? = some v) (K : k_J G l y cc mL rt d h0 h (pc + 3) lv (v :: st) h' r) : k_J G l y cc mL rt d h0 h pc lv (vR (some a) :: st) h' r := by
  obtain ⟨C9, T, N, f1, f2, f3, f4⟩ := hf
  exact ⟨K.1, K.2.1, fun p e s m args below meth c C ht H locs k n ls hp hl hk hn hv => va_get (Ts := k_tbl) C.1 C.2.1 C.2.2.2.2.2.1 f3 C.2.2.2.2.1 C.2.2.2.2.2.2.2.2.1.K (k_P1 (k_hp_cell hp ho)) 0 rfl f1 _ f2 (C.2.2.2.2.2.1 _ f4) (fun _ h9 => h9) (k_mv hv9) hdg (K.2.2 p e s m args below meth c C ht H locs k n ls hp hl hk hn hv)⟩
theorem k_locs {locs : List Loc} {P : Nat → Prop} {a i : Nat} (h : ∀ q ∈ locs, P q.base) (ha : P a) : ∀ q ∈ locs ++ [⟨a, i⟩], P q.base := fun q hq => by
  rcases List.mem_append.mp hq with e | e
  · exact h q e
  · simp at e; subst e; exact ha
theorem k_hp_ge {G : k_G} {h : k_H} {H : Heap} (hp : k_hp G h H) {a : Nat} {ci : Nat} {fs : List k_V} (ho : h.1 a = some (k_o ci fs)) : k_we G a := by
  obtain ⟨-, -, -, F, ow, h1, h2⟩ := hp
  exact (h1 _ _ (h2 _ _ ho)).1
theorem j_putf {a idx ci k : Nat} {fs fs9 : List k_V} {v : k_V} {ty : FieldType} (hdg : decode cc pc = .ok (.putfield idx, 3)) (hf : k_fldP y.cls idx ci k ty false) (ho : h.1 a = some (k_o ci fs)) (hl9 : k < fs.length) (hv9 : k_fit ty v) (hs9 : fs.set k v = fs9) (K : k_J G l y cc mL rt d h0 (k_up h a (k_o ci fs9)) (pc + 3) lv st h' r) : k_J G l y cc mL rt d h0 h pc lv (v :: vR (some a) :: st) h' r := by
  subst hs9
  obtain ⟨C9, T, N, ty0, f1, f2, f3, f4, f5, f6, f7, f8, f9⟩ := hf
  refine ⟨K.1, K.2.1, fun p e s m args below meth c C ht H locs k9 n ls hp hl hk hn hv => ?_⟩
  have hts := C.2.2.2.2.2.1
  have hKs := C.2.2.2.2.2.2.2.2.1.K
  have hap := va_apart (own := y.cls) hts f3 ty0 f5 f6 hKs f1
  obtain ⟨r9, h1, cell, q1, q2, q3, q4⟩ := k_hp_cell hp ho
  have hr : r9 = (C9, T, N) := Option.some.inj (h1.symm.trans f1)
  subst hr
  obtain ⟨hS, hfc, kC, hkC, hkind⟩ := hKs.1 ci _ f1
  obtain ⟨cf, kf, fi, f, hi, hsl⟩ := hS k f2
  have hlay := hts _ (f3 _ (u_in_lay f2))
  unfold u_lay at hlay
  rw [if_neg (by rw [f7]; decide)] at hlay
  have hst := (u_facts hfc hkC (u_lays hts f3 f2) hi).1
  have h6 := u_store hfc hkC hkind hlay hi f8 hv9.1 hv9.2
  refine W.putK C.1 C.2.1 (f := f) ⟨C.2.2.2.2.1, hts _ f4, ⟨_, _, _, hi⟩, hst⟩ (by rw [q2]; exact h6) q1 q3 (by rw [hsl]; exact k2_hasslot (q4 k f2)) rfl rfl hdg fun H' e1 e2 e3 => ?_
  rw [hsl] at e1 ⊢
  refine K.2.2 p e s m args below meth c C ht H' _ k9 n ls (k_hp_set hp ho (fun _ _ h => by cases h) e2 e3 (e := .inr (ci, (fs.set k v).map k_v)) ⟨_, f1, ?_⟩ (fun _ _ _ h => h)) (k_locs hl (k_hp_ge hp ho)) hk hn hv
  rw [List.map_set]
  exact t_OB.to (V := updV (vp_V (fs.map k_v)) k (k_v v)) ⟨_, e1, q2, q3, t_set q4 hap f2 (k_v v)⟩ (fun j _ => vp_updV_set (by rw [List.length_map]; exact hl9) (k_v v) j)
theorem j_putF {a idx ci k : Nat} {fs fs9 : List k_V} {v : k_V} {ty : FieldType} (hdg : decode cc pc = .ok (.putfield idx, 3)) (hinit : y.name = "<init>") (hf : k_fldP y.cls idx ci k ty true) (ho : h.1 a = some (k_o ci fs)) (hl9 : k < fs.length) (hv9 : k_fit ty v) (hs9 : fs.set k v = fs9) (K : k_J G l y cc mL rt d h0 (k_up h a (k_o ci fs9)) (pc + 3) lv st h' r) : k_J G l y cc mL rt d h0 h pc lv (v :: vR (some a) :: st) h' r := by
  subst hs9
  obtain ⟨C9, T, N, ty0, f1, f2, f3, f4, f5, f6, f7, f8, f9⟩ := hf
  refine ⟨K.1, K.2.1, fun p e s m args below meth c C ht H locs k9 n ls hp hl hk hn hv => ?_⟩
  have hts := C.2.2.2.2.2.1
  have hKs := C.2.2.2.2.2.2.2.2.1.K
  have hown := C.2.2.2.2.1
  have hap := va_apart (own := y.cls) hts f3 ty0 f5 f6 hKs f1
  obtain ⟨r9, h1, cell, q1, q2, q3, q4⟩ := k_hp_cell hp ho
  have hr : r9 = (C9, T, N) := Option.some.inj (h1.symm.trans f1)
  subst hr
  obtain ⟨hS, hfc, kC, hkC, hkind⟩ := hKs.1 ci _ f1
  obtain ⟨cf, kf, fi, f, hi, hsl⟩ := hS k f2
  have hlay := hts _ (f3 _ (u_in_lay f2))
  unfold u_lay at hlay
  rw [if_pos f7] at hlay
  have hst := (u_facts hfc hkC (u_lays hts f3 f2) hi).1
  have hcf : m.cls = cf := by
    obtain ⟨_, _, c', _, _, _, -, -, hf', -, -, -, hown2, -⟩ := Cond.laysFinal_spec hlay
    have e1 : c' = cf := by have := hi.symm.trans hf'; simp at this; exact this.1.symm
    rw [f9 rfl] at hown2
    rw [← e1]; exact Option.some.inj (hown.symm.trans hown2)
  have h6 := u_fits hfc hkC hkind (Or.inr hlay) hi f8 hv9.1 hv9.2
  refine W.putFinK C.1 C.2.1 hown (hts _ f4) hi hst hcf (C.2.2.2.2.2.2.2.1.trans hinit) (by rw [q2]; exact h6) q1 q3 (by rw [hsl]; exact k2_hasslot (q4 k f2)) rfl rfl hdg fun H' e1 e2 e3 => ?_
  rw [hsl] at e1 ⊢
  refine K.2.2 p e s m args below meth c C ht H' _ k9 n ls (k_hp_set hp ho (fun _ _ h => by cases h) e2 e3 (e := .inr (ci, (fs.set k v).map k_v)) ⟨_, f1, ?_⟩ (fun _ _ _ h => h)) (k_locs hl (k_hp_ge hp ho)) hk hn hv
  rw [List.map_set]
  exact t_OB.to (V := updV (vp_V (fs.map k_v)) k (k_v v)) ⟨_, e1, q2, q3, t_set q4 hap f2 (k_v v)⟩ (fun j _ => vp_updV_set (by rw [List.length_map]; exact hl9) (k_v v) j)
theorem j_new {idx ci N : Nat} {fs : List k_V} (hdg : decode cc pc = .ok (.new idx, 3)) (hf : k_cls y.cls idx ci N fs) (K : k_J G l y cc mL rt d h0 (k_nw h N (k_o ci fs)) (pc + 3) lv (vR (some h.2.1) :: st) h' r) : k_J G l y cc mL rt d h0 h pc lv st h' r := by
  obtain ⟨C9, T, ty, f1, f2, f3, f4, f5, f6, f7⟩ := hf
  have e1 : h.2.1 + 1 ≤ h'.2.1 := K.1
  have e2 : h.2.2 + N ≤ h'.2.2 := K.2.1
  refine ⟨by omega, by omega, fun p e s m args below meth c C ht H locs k n ls hp hl hk hn hv => ?_⟩
  have hts := C.2.2.2.2.2.1
  have hKn := C.2.2.2.2.2.2.2.2.1.K.1 ci _ f1
  refine W.newcK C.1 C.2.1 C.2.2.2.2.1 (hts _ f4) (hts _ f5) (hts _ f6) rfl hdg (by show k + 1 ≤ h'.2.1 - h0.2.1; omega) (by show n + N ≤ h'.2.2 - h0.2.2; omega) hKn.2.1 rfl fun H1 kC hkC z1 z2 o1 => ?_
  have K9 := K.2.2 p e s m args below meth c C ht H1 locs (k + 1) (n + N) ls (k_hp_new hp (n := N) (c := k_o ci fs) z2 o1 (e := .inr (ci, fs.map k_v)) ⟨_, f1, (u_born ty hts f2 hKn hkC z1 f3).to f7⟩ (fun _ _ _ h => h)) hl (by show k + 1 + h0.2.1 = h.2.1 + 1; omega) (by show n + N + h0.2.2 = h.2.2 + N; omega) hv
  have hz : H.size = h.2.1 := hp.1
  rw [← hz] at K9
  exact K9
end KJH
end
section
section KJA
variable {G : k_G} {l : Launch} {y : MethodName} {cc : ByteArray} {mL : Nat} {rt : Option FieldType} {d : Nat} {h0 h h' : k_H} {pc : Nat} {lv : k_L} {st : List k_V} {r : k_R}
theorem j_iald {a n0 : Nat} {f : Nat → Int32} {i : Int32} (hdg : decode cc pc = .ok (.iaload, 1)) (ho : h.1 a = some (k_i n0 f)) (hi : vp_in i n0) (K : k_J G l y cc mL rt d h0 h (pc + 1) lv (vI (f i.toNatClampNeg) :: st) h' r) : k_J G l y cc mL rt d h0 h pc lv (vI i :: vR (some a) :: st) h' r :=
  ⟨K.1, K.2.1, fun p e s m args below meth c C ht H locs k n ls hp hl hk hn hv => va_iald C.1 C.2.1 C.2.2.2.2.2.2.2.2.1.K (k_P1 (k_hp_i hp ho)) 0 0 rfl rfl hi hdg (K.2.2 p e s m args below meth c C ht H locs k n ls hp hl hk hn hv)⟩
theorem k_hp_gi {G : k_G} {h : k_H} {H : Heap} (hp : k_hp G h H) {a n : Nat} {f : Nat → Int32} (ho : h.1 a = some (k_i n f)) : k_we G a := by
  obtain ⟨-, -, -, F, ow, h1, h2⟩ := hp
  exact (h1 _ _ (h2 _ _ ho)).1
theorem k_hp_gj {G : k_G} {h : k_H} {H : Heap} (hp : k_hp G h H) {a n : Nat} {f : Nat → Int64} (ho : h.1 a = some (k_j n f)) : k_we G a := by
  obtain ⟨-, -, -, F, ow, h1, h2⟩ := hp
  exact (h1 _ _ (h2 _ _ ho)).1
theorem k_hp_gz {G : k_G} {h : k_H} {H : Heap} (hp : k_hp G h H) {a n : Nat} {f : Nat → Int32} (ho : h.1 a = some (k_z n f)) : k_we G a := by
  obtain ⟨-, -, -, F, ow, h1, h2⟩ := hp
  exact (h1 _ _ (h2 _ _ ho)).1
theorem j_iast {a n0 : Nat} {f : Nat → Int32} {i x : Int32} (hdg : decode cc pc = .ok (.iastore, 1)) (ho : h.1 a = some (k_i n0 f)) (hi : vp_in i n0) (K : k_J G l y cc mL rt d h0 (k_up h a (k_i n0 (va_up f i.toNatClampNeg x))) (pc + 1) lv st h' r) : k_J G l y cc mL rt d h0 h pc lv (vI x :: vI i :: vR (some a) :: st) h' r := by
  refine ⟨K.1, K.2.1, fun p e s m args below meth c C ht H locs k n ls hp hl hk hn hv => ?_⟩
  have hKs := C.2.2.2.2.2.2.2.2.1.K
  refine W.iast C.1 C.2.1 (cell := vp_cell (k_cI G) (n0, .inl f)) (k_hp_i hp ho) ((hKs.2 0 _ rfl).1 n0 (fun j => .int (f j))) (fun q => by cases q) (by show ¬ (i < 0 ∨ (arrV _ _ _).slots.size ≤ _); rw [arrV_size]; exact hi) rfl rfl hdg fun H1 e1 z oq => ?_
  refine K.2.2 p e s m args below meth c C ht H1 _ k n ls (k_hp_set hp ho (fun _ _ h => by cases h) z oq (e := .inl (k_cI G, n0, .inl (va_up f i.toNatClampNeg x))) ?_ (fun _ _ _ h => h)) (k_locs hl (k_hp_gi hp ho)) hk hn hv
  show H1[a]? = some (vp_cell _ _)
  rw [e1]
  rw [vp_cell_i, vp_cell_i, arrV_store]
  congr 2
  funext q
  simp only [updV, va_up]
  split <;> rfl
theorem k_hp_len {G : k_G} {h : k_H} {H : Heap} (hp : k_hp G h H) : H.size = h.2.1 := hp.1
theorem k_ra {u : State} {cA : ClassId} (hA : va_RA u cA .int ∨ va_RA u cA .long ∨ va_RA u cA .boolean) : True := trivial
theorem j_newi {n0 : Int32} {N : Nat} (hdg : decode cc pc = .ok (.newarray .int, 2)) (harr : Cond.arrayClass .int ∈ k_tbl) (hN : n0 = nI N) (hb : N < 2 ^ 20) (K : k_J G l y cc mL rt d h0 (k_nw h N (k_i N (fun _ => 0))) (pc + 2) lv (vR (some h.2.1) :: st) h' r) : k_J G l y cc mL rt d h0 h pc lv (vI n0 :: st) h' r := by
  have e1 : h.2.1 + 1 ≤ h'.2.1 := K.1
  have e2 : h.2.2 + N ≤ h'.2.2 := K.2.1
  refine ⟨by omega, by omega, fun p e s m args below meth c C ht H locs k n ls hp hl hk hn hv => ?_⟩
  have hKs := C.2.2.2.2.2.2.2.2.1.K
  have hcl : (nI N).toNatClampNeg = N := nI_clamp (by omega)
  refine va_newaK (N := N) C.1 C.2.1 (atype := .int) (C.2.2.2.2.2.1 _ harr) rfl hdg rfl (by rw [hN]; exact nI_pos (by omega)) (by rw [hN]; exact hcl) (by show N * 4 ≤ 536870912; omega) (by show k + 1 ≤ h'.2.1 - h0.2.1; omega) (by show n + N ≤ h'.2.2 - h0.2.2; omega) rfl fun H1 cA z1 z2 o1 hAr hNm => ?_
  have hcc : cA = k_cI G := by
    have h9 := (hKs.2 0 _ rfl).2
    have h8 : s.vm.findClass ("[" ++ (FieldType.int).toString) = some (k_cI G) := h9
    exact Option.some.inj (hNm.symm.trans h8)
  subst hcc
  have K9 := K.2.2 p e s m args below meth c C ht H1 locs (k + 1) (n + N) ls (k_hp_new hp (n := N) (c := k_i N (fun _ => 0)) z2 o1 (e := .inl (k_cI G, N, .inl (fun _ => 0))) (by show H1[H.size]? = some (vp_cell _ _); rw [z1, vp_cell_i]; rfl) (fun _ _ _ h => h)) hl (by show k + 1 + h0.2.1 = h.2.1 + 1; omega) (by show n + N + h0.2.2 = h.2.2 + N; omega) hv
  rw [← hp.1] at K9
  exact K9
theorem j_alen {a n0 : Nat} {f : Nat → Int32} (hdg : decode cc pc = .ok (.arraylength, 1)) (ho : h.1 a = some (k_i n0 f)) (K : k_J G l y cc mL rt d h0 h (pc + 1) lv (vI (nI n0) :: st) h' r) : k_J G l y cc mL rt d h0 h pc lv (vR (some a) :: st) h' r :=
  ⟨K.1, K.2.1, fun p e s m args below meth c C ht H locs k n ls hp hl hk hn hv => va_alen C.1 C.2.1 C.2.2.2.2.2.2.2.2.1.K (k_P1 (k_hp_i hp ho)) 0 0 rfl rfl rfl hdg (K.2.2 p e s m args below meth c C ht H locs k n ls hp hl hk hn hv)⟩
/-- a cast to the very class -/
theorem j_cast {a idx ci : Nat} {fs : List k_V} (hdg : decode cc pc = .ok (.checkcast idx, 3)) (hf : ∃ (C9 : String) (T : u_T) (N : Nat), vwCl[ci]? = some (C9, T, N) ∧ Cond.classLink y.cls idx C9 ∈ k_tbl) (ho : h.1 a = some (k_o ci fs)) (K : k_J G l y cc mL rt d h0 h (pc + 3) lv (vR (some a) :: st) h' r) : k_J G l y cc mL rt d h0 h pc lv (vR (some a) :: st) h' r := by
  obtain ⟨C9, T, N, f1, f2⟩ := hf
  refine ⟨K.1, K.2.1, fun p e s m args below meth c C ht H locs k n ls hp hl hk hn hv => ?_⟩
  have hKs := C.2.2.2.2.2.2.2.2.1.K
  exact va_castS C.1 C.2.1 C.2.2.2.2.1 (C.2.2.2.2.2.1 _ f2) (hKs.1 ci _ f1).2 (va_recv hKs (k_P1 (k_hp_cell hp ho)) f1 (q0 := 0) rfl) hdg (K.2.2 p e s m args below meth c C ht H locs k n ls hp hl hk hn hv)
/-! THE ENDS -/
theorem k_cnt {k a b : Nat} (h : k + a = b) : b - a = k := by omega
theorem j_iret {x : Int32} (hdg : decode cc pc = .ok (.ireturn, 1)) (hr : rt = some .int) : k_J G l y cc mL rt d h0 h pc lv [vI x] h (.inl (some (vI x))) :=
  ⟨Nat.le_refl _, Nat.le_refl _, fun p e s m args below meth c C ht H locs k n ls hp hl hk hn hv => by
    rw [k_cnt hk, k_cnt hn]
    exact vx_ret (W.iret C.1 C.2.1 (C.2.2.1.trans hr) (fun t ht9 hW => ⟨_, rfl, rfl, by rw [ht9]; exact hp⟩) hl hdg C.2.2.2.2.2.2.1)⟩
theorem j_zret {x : Int32} (hdg : decode cc pc = .ok (.ireturn, 1)) (hr : rt = some .boolean) (hx : k_bl x) : k_J G l y cc mL rt d h0 h pc lv [vI x] h (.inl (some (vI x))) :=
  ⟨Nat.le_refl _, Nat.le_refl _, fun p e s m args below meth c C ht H locs k n ls hp hl hk hn hv => by
    rw [k_cnt hk, k_cnt hn]
    exact vx_ret (W.zret C.1 C.2.1 (C.2.2.1.trans hr) (by rcases hx with rfl | rfl <;> rfl) (fun t ht9 hW => ⟨_, rfl, rfl, by rw [ht9]; exact hp⟩) hl hdg C.2.2.2.2.2.2.1)⟩
theorem j_lret {x : Int64} (hdg : decode cc pc = .ok (.lreturn, 1)) (hr : rt = some .long) : k_J G l y cc mL rt d h0 h pc lv [vJ x] h (.inl (some (vJ x))) :=
  ⟨Nat.le_refl _, Nat.le_refl _, fun p e s m args below meth c C ht H locs k n ls hp hl hk hn hv => by
    rw [k_cnt hk, k_cnt hn]
    exact vx_ret (W.lret C.1 C.2.1 (C.2.2.1.trans hr) (fun t ht9 hW => ⟨_, rfl, rfl, by rw [ht9]; exact hp⟩) hl hdg C.2.2.2.2.2.2.1)⟩
theorem j_vret (hdg : decode cc pc = .ok (.return_, 1)) (hr : rt = none) : k_J G l y cc mL rt d h0 h pc lv [] h (.inl none) :=
  ⟨Nat.le_refl _, Nat.le_refl _, fun p e s m args below meth c C ht H locs k n ls hp hl hk hn hv => by
    rw [k_cnt hk, k_cnt hn]
    exact vx_ret (W.vret C.1 C.2.1 (C.2.2.1.trans hr) (fun t ht9 hW => ⟨_, rfl, rfl, by rw [ht9]; exact hp⟩) hl hdg C.2.2.2.2.2.2.1)⟩
theorem j_aret {x : Option Nat} {t0 : FieldType} (hdg : decode cc pc = .ok (.areturn, 1)) (hr : rt = some t0) (ht0 : (∃ n, t0 = .object n) ∨ ∃ t, t0 = .array t) : k_J G l y cc mL rt d h0 h pc lv [vR x] h (.inl (some (vR x))) :=
  ⟨Nat.le_refl _, Nat.le_refl _, fun p e s m args below meth c C ht H locs k n ls hp hl hk hn hv => by
    rw [k_cnt hk, k_cnt hn]
    exact vx_ret (W.aret (v := k_v (vR x)) C.1 C.2.1 (C.2.2.1.trans hr) ht0 (by cases x; exact Or.inl rfl; exact Or.inr ⟨_, rfl⟩) (fun t ht9 hW => ⟨_, rfl, rfl, by rw [ht9]; exact hp⟩) hl hdg C.2.2.2.2.2.2.1)⟩
end KJA
end
section
/-! CALLS, ENTRIES, THROWS -/
def k_cB (own : String) (idx : Nat) (y : MethodName) (cc : ByteArray) (mL : Nat) (rt : Option FieldType) (n : Nat) : Prop :=
  Cond.code y cc mL rt ∈ k_tbl ∧ Cond.initialized y.cls ∈ k_tbl ∧ (y.cls ≠ "java/lang/invoke/MethodHandle" ∧ y.cls ≠ "java/lang/invoke/VarHandle") ∧ (parseMethodDescriptor y.desc).map (fun d => d.parameters.length) = some n ∧ mL ≤ 21 ∧ Cond.methodLink own idx y ∈ k_tbl
/-- a virtual call (or a private one of its own) -/
def k_cV (own : String) (idx ci : Nat) (y : MethodName) (cc : ByteArray) (mL : Nat) (rt : Option FieldType) (n : Nat) : Prop :=
  k_cB own idx y cc mL rt n ∧ Cond.instanceMethod y ∈ k_tbl ∧ Cond.selects y.cls y y ∈ k_tbl ∧ ∃ (T : u_T) (N : Nat), vwCl[ci]? = some (y.cls, T, N)
def k_cS (own : String) (idx : Nat) (y : MethodName) (cc : ByteArray) (mL : Nat) (rt : Option FieldType) (n : Nat) : Prop :=
  k_cB own idx y cc mL rt n ∧ Cond.static y ∈ k_tbl
def k_cC (own : String) (idx : Nat) (y : MethodName) (cc : ByteArray) (mL : Nat) (n : Nat) : Prop :=
  k_cB own idx y cc mL none n ∧ y.name = "<init>" ∧ Cond.instanceMethod y ∈ k_tbl
/-- .. of a nest mate's private method -/
def k_cN (own : String) (idx : Nat) (y : MethodName) (host : String) (cc : ByteArray) (mL : Nat) (rt : Option FieldType) (n : Nat) : Prop :=
  (own, idx, y, host) ∈ k_nests ∧ Cond.code y cc mL rt ∈ k_tbl ∧ Cond.initialized y.cls ∈ k_tbl ∧ (y.cls ≠ "java/lang/invoke/MethodHandle" ∧ y.cls ≠ "java/lang/invoke/VarHandle") ∧ (parseMethodDescriptor y.desc).map (fun d => d.parameters.length) = some n ∧ mL ≤ 21
/-- the receiver's cell is of class ci -/
def k_is (h : k_H) (b ci : Nat) : Prop := (∃ fs, h.1 b = some (k_o ci fs)) ∨ (ci = 2 ∧ ∃ xs cap, h.1 b = some (k_l xs cap))
theorem k_is_o {h : k_H} {b ci : Nat} {fs : List k_V} (e : h.1 b = some (k_o ci fs)) : k_is h b ci := Or.inl ⟨fs, e⟩
theorem k_is_l {h : k_H} {b cap : Nat} {xs : List Nat} (e : h.1 b = some (k_l xs cap)) : k_is h b 2 := Or.inr ⟨rfl, xs, cap, e⟩
theorem k_recv {G : k_G} {s : State} {h : k_H} {H : Heap} {b ci : Nat} {q : vw_C} (hE : k_E G s) (hp : k_hp G h H) (hi : k_is h b ci) (hc : vwCl[ci]? = some q) : ∃ cell : Cell, H[b]? = some cell ∧ cell.vm.isStatics = false ∧ s.vm.findClass q.1 = some cell.cls := by
  rcases hi with ⟨fs, ho⟩ | ⟨rfl, xs, cap, ho⟩
  · exact va_recv hE.K (k_P1 (k_hp_cell hp ho)) hc (q0 := 0) rfl
  · obtain ⟨md, t, h1⟩ := k_hp_l hp ho
    exact va_recv hE.K (k_P1 h1) hc (q0 := 0) rfl
theorem k_payAll {args : Array Value} {s : State} {y : Cond} (hts : ∀ w ∈ k_tbl, w.before args s = true) (h : y ∈ k_tbl) : ∀ w ∈ y :: k_tbl, ∀ (a' : Array Value) (U : State), s.WarmedH U.vm → w.before a' U = true :=
  pay_in hts (fun w hw => (List.mem_cons.mp hw).elim (fun e => by subst e; exact ⟨h, k_good_tbl _ h⟩) (fun e => ⟨e, k_good_tbl _ e⟩))
section KC
variable {G : k_G} {l : Launch} {y : MethodName} {cc : ByteArray} {mL : Nat} {rt : Option FieldType} {d : Nat} {h0 h h' : k_H} {pc : Nat} {lv : k_L} {st : List k_V} {r : k_R}
theorem k_met {y : MethodName} {as : List k_V} {h1 : k_H} {v : Option k_V} (C : k_Ct G l y cc mL rt d as h h1 (.inl v)) : Met l y (.code y cc mL rt :: k_tbl) (k_rm d h h1) (k_Pc G as h) (k_Q G h1 (.inl v)) (h1.2.1 - h.2.1) (h1.2.2 - h.2.2) (k_we G) := by
  refine MetFree.mono C.2.2 (fun _ _ h => h) (fun _ _ _ _ _ h => h) (fun a s o s' _ hq => ?_)
  rcases hq with hq | ⟨q, -, E, ce, L, hx, -⟩
  · exact hq
  · cases hx.1
theorem k_cbOf {args : Array Value} {s : State} {own : String} {idx n d' : Nat} {y' : MethodName} {cc' : ByteArray} {mL' : Nat} {rt' : Option FieldType} {h1 : k_H} (hts : ∀ w ∈ k_tbl, w.before args s = true) (hc : k_cB own idx y' cc' mL' rt' n) (hd : d' + 1 ≤ d) : CallB (k_rm d h0 h') s args own idx y' cc' mL' rt' (.code y' cc' mL' rt' :: k_tbl) (k_rm d' h h1) (h1.2.1 - h.2.1) (h1.2.2 - h.2.2) n := by
  obtain ⟨c1, c2, c3, c4, c5, c6⟩ := hc
  refine ⟨rfl, rfl, hd, by show 8 + (mL' + 11) + 40 * d' ≤ 40 * d; omega, k_payAll hts c1, List.mem_cons_self, hts _ c1, hts _ c2, c3, fun sig h => ?_, hts _ c6⟩
  rw [h] at c4
  exact (Option.some.inj c4).symm
theorem k_cont {p : Program} {e : Env} {R : Room} {s : State} {m : MethodId} {args a : Array Value} {below : List Frame} {meth : Method} {c : Code} {H : Heap} {locs : List Loc} {k n mc ms : Nat} {ls : Array Slot} {st0 : List Value} {Q : State → Prop} {h1 : k_H} {v : Option k_V}
    (hr : va_Run p l e R s m args below meth c H locs k n mc ms (F0 m pc ls st0) (st.map k_v) (k_Q G h1 (.inl v) a) (k_we G)) (hl : ∀ q ∈ locs, k_we G q.base)
    (K : ∀ (H1 : Heap) (locs1 : List Loc), k_hp G h1 H1 → (∀ q ∈ locs1, k_we G q.base) → W p l e R s m args below meth c H1 locs1 (k + mc) (n + ms) Q (F0 m (pc + 3) ls ((v.toList ++ st).map k_v))) : W p l e R s m args below meth c H locs k n Q (F0 m pc ls st0) := by
  intro T hT X
  obtain ⟨v9, st₀, t, T', L, e0, X', hL, e1, e2, ⟨v8, hv8, ho, hq⟩, hst⟩ := hr T hT X
  cases hv8
  cases ho
  obtain ⟨t2, a1, b1⟩ := K T'.heap (locs ++ L) (by rw [e1]; exact hq) (fun q hq => by rcases List.mem_append.mp hq with z | z; exact hl q z; exact hL q z) T' rfl X'
  refine ⟨t2, hst t2 ?_, b1⟩
  cases v <;> exact a1
theorem k_catR (st : List k_V) : ((st.map k_v).map fun v => v.category) = st.map k_cat := by rw [List.map_map]; exact List.map_congr_left fun v _ => k_v_cat v
theorem j_callV {b idx ci n0 d' : Nat} {as ast : List k_V} {y' : MethodName} {cc' : ByteArray} {mL' : Nat} {rt' : Option FieldType} {h1 : k_H} {v : Option k_V} (hdg : decode cc pc = .ok (.invokevirtual idx, 3)) (hw : k_cV y.cls idx ci y' cc' mL' rt' n0) (hn9 : as.length = n0) (hr9 : as.reverse ++ vR (some b) :: st = ast) (hi : k_is h b ci) (hd : d' + 1 ≤ d) (hst : (st.map k_cat).sum ≤ 8)
    (hC : k_Ct G l y' cc' mL' rt' d' (vR (some b) :: as) h h1 (.inl v)) (K : k_J G l y cc mL rt d h0 h1 (pc + 3) lv (v.toList ++ st) h' r) : k_J G l y cc mL rt d h0 h pc lv ast h' r := by
  obtain ⟨wB, w2, w3, T, N, w4⟩ := hw
  have o1 := hC.1
  have o2 := hC.2.1
  have o3 := K.1
  have o4 := K.2.1
  refine ⟨by omega, by omega, fun p e s m args below meth c C ht H locs k n ls hp hl hk hn hv => ?_⟩
  have hts := C.2.2.2.2.2.1
  have hE := C.2.2.2.2.2.2.2.2.1
  refine k_cont (va_runV (As := as.map k_v) (C := y'.cls) (n := n0) (nL := mL) ⟨C.1, C.2.1, C.2.2.2.1, C.2.2.2.2.1, hts⟩ (k_met hC) ⟨k_cbOf hts wB hd, hts _ w2, hts _ w3⟩ ⟨k_blind _ _ _, k_recv hE hp hi w4, fun U hU hW => ⟨rfl, by rw [hU]; exact hp, k_E.warm hW hE⟩⟩ rfl (by rw [List.length_map]; exact hn9) hv.1 (by rw [← hr9]; simp [List.map_reverse, k_v]) (by rw [show (F0 m pc ls (ast.map k_v)).monitorRoom = 0 from rfl, k_catR]; omega) hdg (by show k + _ ≤ h'.2.1 - h0.2.1 ∧ n + _ ≤ h'.2.2 - h0.2.2; omega)) hl (fun H1 locs1 hp1 hl1 => K.2.2 p e s m args below meth c C ht H1 locs1 _ _ ls hp1 hl1 (by omega) (by omega) hv)
theorem j_callS {idx n0 d' : Nat} {as ast : List k_V} {y' : MethodName} {cc' : ByteArray} {mL' : Nat} {rt' : Option FieldType} {h1 : k_H} {v : Option k_V} (hdg : decode cc pc = .ok (.invokestatic idx, 3)) (hw : k_cS y.cls idx y' cc' mL' rt' n0) (hn9 : as.length = n0) (hr9 : as.reverse ++ st = ast) (hd : d' + 1 ≤ d) (hst : (st.map k_cat).sum ≤ 8)
    (hC : k_Ct G l y' cc' mL' rt' d' as h h1 (.inl v)) (K : k_J G l y cc mL rt d h0 h1 (pc + 3) lv (v.toList ++ st) h' r) : k_J G l y cc mL rt d h0 h pc lv ast h' r := by
  obtain ⟨wB, w2⟩ := hw
  have o1 := hC.1
  have o2 := hC.2.1
  have o3 := K.1
  have o4 := K.2.1
  refine ⟨by omega, by omega, fun p e s m args below meth c C ht H locs k n ls hp hl hk hn hv => ?_⟩
  have hts := C.2.2.2.2.2.1
  have hE := C.2.2.2.2.2.2.2.2.1
  refine k_cont (va_runS (As := as.map k_v) (n := n0) (nL := mL) ⟨C.1, C.2.1, C.2.2.2.1, C.2.2.2.2.1, hts⟩ (k_met hC) ⟨k_cbOf hts wB hd, hts _ w2⟩ ⟨k_blind _ _ _, fun U hU hW => ⟨rfl, by rw [hU]; exact hp, k_E.warm hW hE⟩⟩ rfl (by rw [List.length_map]; exact hn9) hv.1 (by rw [← hr9]; simp [List.map_reverse]) (by rw [show (F0 m pc ls (ast.map k_v)).monitorRoom = 0 from rfl, k_catR]; omega) hdg (by show k + _ ≤ h'.2.1 - h0.2.1 ∧ n + _ ≤ h'.2.2 - h0.2.2; omega)) hl (fun H1 locs1 hp1 hl1 => K.2.2 p e s m args below meth c C ht H1 locs1 _ _ ls hp1 hl1 (by omega) (by omega) hv)
theorem j_callI {b idx n0 d' : Nat} {as ast : List k_V} {y' : MethodName} {cc' : ByteArray} {mL' : Nat} {h1 : k_H} {v : Option k_V} (hdg : decode cc pc = .ok (.invokespecial idx, 3)) (hw : k_cC y.cls idx y' cc' mL' n0) (hn9 : as.length = n0) (hr9 : as.reverse ++ vR (some b) :: st = ast) (hd : d' + 1 ≤ d) (hst : (st.map k_cat).sum ≤ 8)
    (hC : k_Ct G l y' cc' mL' none d' (vR (some b) :: as) h h1 (.inl v)) (K : k_J G l y cc mL rt d h0 h1 (pc + 3) lv (v.toList ++ st) h' r) : k_J G l y cc mL rt d h0 h pc lv ast h' r := by
  obtain ⟨wB, w2, w3⟩ := hw
  have o1 := hC.1
  have o2 := hC.2.1
  have o3 := K.1
  have o4 := K.2.1
  refine ⟨by omega, by omega, fun p e s m args below meth c C ht H locs k n ls hp hl hk hn hv => ?_⟩
  have hts := C.2.2.2.2.2.1
  have hE := C.2.2.2.2.2.2.2.2.1
  refine k_cont (va_runI (As := as.map k_v) (n := n0) (nL := mL) ⟨C.1, C.2.1, C.2.2.2.1, C.2.2.2.2.1, hts⟩ (k_met hC) ⟨k_cbOf hts wB hd, w2, hts _ w3⟩ ⟨k_blind _ _ _, fun U hU hW => ⟨rfl, by rw [hU]; exact hp, k_E.warm hW hE⟩⟩ rfl (by rw [List.length_map]; exact hn9) hv.1 (by rw [← hr9]; simp [List.map_reverse, k_v]) (by rw [show (F0 m pc ls (ast.map k_v)).monitorRoom = 0 from rfl, k_catR]; omega) hdg (by show k + _ ≤ h'.2.1 - h0.2.1 ∧ n + _ ≤ h'.2.2 - h0.2.2; omega)) hl (fun H1 locs1 hp1 hl1 => K.2.2 p e s m args below meth c C ht H1 locs1 _ _ ls hp1 hl1 (by omega) (by omega) hv)
theorem k_cnOf {args : Array Value} {s : State} {own host : String} {idx n d' : Nat} {y' : MethodName} {cc' : ByteArray} {mL' : Nat} {rt' : Option FieldType} {h1 : k_H} (hts : ∀ w ∈ k_tbl, w.before args s = true) (hE : k_E G s) (hc : k_cN own idx y' host cc' mL' rt' n) (hd : d' + 1 ≤ d) : va_CN (k_rm d h0 h') s args own idx y' host cc' mL' rt' (.code y' cc' mL' rt' :: k_tbl) (k_rm d' h h1) (h1.2.1 - h.2.1) (h1.2.2 - h.2.2) n := by
  obtain ⟨c6, c1, c2, c3, c4, c5⟩ := hc
  refine ⟨⟨rfl, rfl, hd, by show 8 + (mL' + 11) + 40 * d' ≤ 40 * d; omega, k_payAll hts c1, List.mem_cons_self⟩, hts _ c1, hts _ c2, c3, fun sig h => ?_, va_Nw.use rfl (hE.2.2.2.2.2.2.1 _ c6)⟩
  rw [h] at c4
  exact (Option.some.inj c4).symm
theorem j_callSN {host : String} {idx n0 d' : Nat} {as ast : List k_V} {y' : MethodName} {cc' : ByteArray} {mL' : Nat} {rt' : Option FieldType} {h1 : k_H} {v : Option k_V} (hdg : decode cc pc = .ok (.invokestatic idx, 3)) (hw : k_cN y.cls idx y' host cc' mL' rt' n0) (hst9 : Cond.static y' ∈ k_tbl) (hn9 : as.length = n0) (hr9 : as.reverse ++ st = ast) (hd : d' + 1 ≤ d) (hst : (st.map k_cat).sum ≤ 8)
    (hC : k_Ct G l y' cc' mL' rt' d' as h h1 (.inl v)) (K : k_J G l y cc mL rt d h0 h1 (pc + 3) lv (v.toList ++ st) h' r) : k_J G l y cc mL rt d h0 h pc lv ast h' r := by
  have o1 := hC.1
  have o2 := hC.2.1
  have o3 := K.1
  have o4 := K.2.1
  refine ⟨by omega, by omega, fun p e s m args below meth c C ht H locs k n ls hp hl hk hn hv => ?_⟩
  have hts := C.2.2.2.2.2.1
  have hE := C.2.2.2.2.2.2.2.2.1
  refine k_cont (va_runSN (As := as.map k_v) (n := n0) (nL := mL) ⟨C.1, C.2.1, C.2.2.2.1, C.2.2.2.2.1, hts⟩ (k_met hC) ⟨k_cnOf hts hE hw hd, hts _ hst9, trivial⟩ ⟨k_blind _ _ _, fun U hU hW => ⟨rfl, by rw [hU]; exact hp, k_E.warm hW hE⟩⟩ rfl (by rw [List.length_map]; exact hn9) hv.1 (by rw [← hr9]; simp [List.map_reverse]) (by rw [show (F0 m pc ls (ast.map k_v)).monitorRoom = 0 from rfl, k_catR]; omega) hdg (by show k + _ ≤ h'.2.1 - h0.2.1 ∧ n + _ ≤ h'.2.2 - h0.2.2; omega)) hl (fun H1 locs1 hp1 hl1 => K.2.2 p e s m args below meth c C ht H1 locs1 _ _ ls hp1 hl1 (by omega) (by omega) hv)
theorem j_callIN {host : String} {b idx n0 d' : Nat} {as ast : List k_V} {y' : MethodName} {cc' : ByteArray} {mL' : Nat} {h1 : k_H} {v : Option k_V} (hdg : decode cc pc = .ok (.invokespecial idx, 3)) (hw : k_cN y.cls idx y' host cc' mL' none n0) (hy9 : y'.name = "<init>") (hin9 : Cond.instanceMethod y' ∈ k_tbl) (hn9 : as.length = n0) (hr9 : as.reverse ++ vR (some b) :: st = ast) (hd : d' + 1 ≤ d) (hst : (st.map k_cat).sum ≤ 8)
    (hC : k_Ct G l y' cc' mL' none d' (vR (some b) :: as) h h1 (.inl v)) (K : k_J G l y cc mL rt d h0 h1 (pc + 3) lv (v.toList ++ st) h' r) : k_J G l y cc mL rt d h0 h pc lv ast h' r := by
  have o1 := hC.1
  have o2 := hC.2.1
  have o3 := K.1
  have o4 := K.2.1
  refine ⟨by omega, by omega, fun p e s m args below meth c C ht H locs k n ls hp hl hk hn hv => ?_⟩
  have hts := C.2.2.2.2.2.1
  have hE := C.2.2.2.2.2.2.2.2.1
  refine k_cont (va_runIN (As := as.map k_v) (n := n0) (nL := mL) ⟨C.1, C.2.1, C.2.2.2.1, C.2.2.2.2.1, hts⟩ (k_met hC) ⟨k_cnOf hts hE hw hd, hy9, hts _ hin9⟩ ⟨k_blind _ _ _, fun U hU hW => ⟨rfl, by rw [hU]; exact hp, k_E.warm hW hE⟩⟩ rfl (by rw [List.length_map]; exact hn9) hv.1 (by rw [← hr9]; simp [List.map_reverse, k_v]) (by rw [show (F0 m pc ls (ast.map k_v)).monitorRoom = 0 from rfl, k_catR]; omega) hdg (by show k + _ ≤ h'.2.1 - h0.2.1 ∧ n + _ ≤ h'.2.2 - h0.2.2; omega)) hl (fun H1 locs1 hp1 hl1 => K.2.2 p e s m args below meth c C ht H1 locs1 _ _ ls hp1 hl1 (by omega) (by omega) hv)
/-- Object's constructor -/
theorem j_objInit {b idx : Nat} (hdg : decode cc pc = .ok (.invokespecial idx, 3)) (h1 : Cond.methodLink y.cls idx objectInit ∈ k_tbl) (h2 : Cond.instanceMethod objectInit ∈ k_tbl) (h3 : Cond.code objectInit ⟨#[0xb1]⟩ 1 none ∈ k_tbl) (hd : 1 ≤ d) (hst : (st.map k_cat).sum ≤ 8) (K : k_J G l y cc mL rt d h0 h (pc + 3) lv st h' r) : k_J G l y cc mL rt d h0 h pc lv (vR (some b) :: st) h' r :=
  ⟨K.1, K.2.1, fun p e s m args below meth c C ht H locs k n ls hp hl hk hn hv => by
    have hts := C.2.2.2.2.2.1
    refine W.objInit C.1 C.2.1 C.2.2.2.2.1 (hts _ h1) (hts _ h2) (hts _ h3) rfl (by rw [C.2.2.2.1]; exact hv.1) rfl hdg ?_ ?_ (K.2.2 p e s m args below meth c C ht H locs k n ls hp hl hk hn hv)
    · exact hd
    · show 2 * (F0 m pc ls (Value.ref b :: st.map k_v)).monitorRoom + ((st.map k_v).map fun v => v.category).sum + 12 ≤ 40 * d
      rw [show (F0 m pc ls (Value.ref b :: st.map k_v)).monitorRoom = 0 from rfl, k_catR]
      omega⟩
/-- a method's body gives its contract -/
def k_args : Nat → List k_V → k_L
  | _, [] => []
  | i, v :: vs => (i, v) :: k_args (if k_cat v = 2 then i + 2 else i + 1) vs
theorem k_args_lm (as : List k_V) : ∀ i : Nat, lv_args i (as.map k_v) = k_lm (k_args i as) := by
  induction as with
  | nil => intro i; rfl
  | cons v vs ih =>
    intro i
    simp only [List.map_cons, lv_args, k_args, k_lm, List.map_cons, k_v_cat]
    rw [ih]
    rfl
theorem k_args_len (as : List k_V) : (lg_sl (as.map k_v)).length = (as.map k_cat).sum := by
  induction as with
  | nil => rfl
  | cons v vs ih =>
    simp only [List.map_cons, List.sum_cons, ← ih]
    show ((if (k_v v).category = 2 then [Slot.val (k_v v), .second] else [.val (k_v v)]) ++ lg_sl (vs.map k_v)).length = _
    rw [List.length_append, k_v_cat]
    rcases v with x | x | x <;> simp [k_cat]
theorem k_CtOf {as : List k_V} (hy : plainName y.cls = true) (hlen : (as.map k_cat).sum ≤ mL) (K : k_J G l y cc mL rt d h h 0 (k_args 0 as) [] h' r) (hfl : l.flags = flags0) : k_Ct G l y cc mL rt d as h h' r := by
  refine ⟨K.1, K.2.1, vx_ofW (cc := cc) (maxL := mL) (ret := rt) hy rfl ?_⟩
  intro p e s m args below meth c s₁ B hml ht hv
  obtain ⟨rfl, hp, hE⟩ := hv
  have hts := atoms_spec (ws := .code y cc mL rt :: k_tbl) B.pre
  have hown : s.vm.findClass y.cls = some m.cls := findClass_of_methodNamed B.named
  have hl := lv_entry (as.map k_v) (n := mL) (by rw [k_args_len]; exact hlen)
  rw [k_args_lm] at hl
  rw [lg_entry_eq]
  exact K.2.2 p e s m _ below meth c ⟨B.exec, B.bytes, B.returns, hml, hown, fun w hw => hts w (List.mem_cons_of_mem _ hw), B.notSynchronized, (name_of_methodNamed B.named B.method).1, hE, hp, hfl⟩ ht s.heap [] 0 0 _ hp (fun _ h => by cases h) (by omega) (by omega) hl
end KC
end
section
/-! EXCEPTIONS, AND THE JUDGEMENT WITH A POSTCONDITION -/
section KX
variable {G : k_G} {l : Launch} {y : MethodName} {cc : ByteArray} {mL : Nat} {rt : Option FieldType} {d : Nat} {h0 h h' : k_H} {pc : Nat} {lv : k_L} {st : List k_V} {r : k_R}
theorem k_noTable {c : Code} {pc : Nat} (ht : ∀ x ∈ c.exceptionTable.toList, False) : ∀ x ∈ c.exceptionTable.toList, covers x pc = false := fun x hx => (ht x hx).elim
/-- a callee throws: so does this method -/
theorem k_contX {p : Program} {e : Env} {R : Room} {s : State} {m : MethodId} {args a : Array Value} {below : List Frame} {meth : Method} {c : Code} {H : Heap} {locs : List Loc} {k n mc ms kc ks : Nat} {ls : Array Slot} {st0 rest : List Value} {h1 : k_H} {E9 : String}
    (hr : vx_Run p l e R s m args below meth c H locs k n mc ms (F0 m pc ls st0) rest (k_Q G h1 (.inr E9) a) (k_XC G h1 (.inr E9)) (k_we G)) (hl : ∀ q ∈ locs, k_we G q.base) (ht : ∀ x ∈ c.exceptionTable.toList, False) (hlk : meth.locks = false) (hk : k + mc ≤ kc) (hn : n + ms ≤ ks) :
    W p l e R s m args below meth c H locs k n (vx_MQ below (k_Q G h1 (.inr E9)) (k_XC G h1 (.inr E9)) args s kc ks (k_we G)) (F0 m pc ls st0) := by
  intro T hT X
  rcases hr T hT X with ⟨v9, st₀, t, T', L, e0, X', hL, e1, e2, ⟨v8, hv8, ho, hq⟩, hst⟩ | ⟨q, st₀, t, T', L, E, ce, e0, X', hL, e1, e2, ⟨hE, hp1⟩, hce, hcv, hcl, hst⟩
  · cases hv8
  · cases hE
    have hx := vx_out (p := p) (l := l) (e := e) (R := R) (s := s) (m := m) (args := args) (below := below) (meth := meth) (c := c) (H := T'.heap) (locs := locs ++ L) (cells := k + mc) (slots := n + ms) (free := k_we G) (ls := ls) (rest := rest) (Qc := k_Q G h1 (.inr E9)) (XC := k_XC G h1 (.inr E9)) (pc := pc) (E := E9) (ce := ce) (q := q) (mc := kc) (ms := ks) (k_noTable ht) hlk (by rw [e1]; exact hce) hcv hcl
      (fun t9 ht9 _ => ⟨rfl, by rw [ht9, e1]; exact hp1⟩) (fun q hq => by rcases List.mem_append.mp hq with z | z; exact hl q z; exact hL q z) hk hn
    obtain ⟨t2, a1, b1⟩ := hx T' rfl X'
    exact ⟨t2, hst.trans a1, b1⟩
theorem j_callVx {b idx ci n0 d' : Nat} {as ast : List k_V} {y' : MethodName} {cc' : ByteArray} {mL' : Nat} {rt' : Option FieldType} {h1 : k_H} {E : String} (hdg : decode cc pc = .ok (.invokevirtual idx, 3)) (hw : k_cV y.cls idx ci y' cc' mL' rt' n0) (hn9 : as.length = n0) (hr9 : as.reverse ++ vR (some b) :: st = ast) (hi : k_is h b ci) (hd : d' + 1 ≤ d) (hst : (st.map k_cat).sum ≤ 8)
    (hC : k_Ct G l y' cc' mL' rt' d' (vR (some b) :: as) h h1 (.inr E)) : k_J G l y cc mL rt d h0 h pc lv ast h1 (.inr E) := by
  obtain ⟨wB, w2, w3, T, N, w4⟩ := hw
  have o1 := hC.1
  have o2 := hC.2.1
  refine ⟨o1, o2, fun p e s m args below meth c C ht H locs k n ls hp hl hk hn hv => ?_⟩
  have hts := C.2.2.2.2.2.1
  have hE := C.2.2.2.2.2.2.2.2.1
  exact k_contX (vx_runV (As := as.map k_v) (C := y'.cls) (n := n0) (nL := mL) (rest := st.map k_v) ⟨C.1, C.2.1, C.2.2.2.1, C.2.2.2.2.1, hts⟩ hC.2.2 ⟨k_cbOf hts wB hd, hts _ w2, hts _ w3⟩ ⟨k_blind _ _ _, k_recv hE hp hi w4, fun U hU hW => ⟨rfl, by rw [hU]; exact hp, k_E.warm hW hE⟩⟩ rfl (by rw [List.length_map]; exact hn9) hv.1 (by rw [← hr9]; simp [List.map_reverse, k_v]) (by rw [show (F0 m pc ls (ast.map k_v)).monitorRoom = 0 from rfl, k_catR]; omega) hdg (by show k + _ ≤ h1.2.1 - h0.2.1 ∧ n + _ ≤ h1.2.2 - h0.2.2; omega)) hl ht C.2.2.2.2.2.2.1 (by omega) (by omega)
theorem j_callSx {idx n0 d' : Nat} {as ast : List k_V} {y' : MethodName} {cc' : ByteArray} {mL' : Nat} {rt' : Option FieldType} {h1 : k_H} {E : String} (hdg : decode cc pc = .ok (.invokestatic idx, 3)) (hw : k_cS y.cls idx y' cc' mL' rt' n0) (hn9 : as.length = n0) (hr9 : as.reverse ++ st = ast) (hd : d' + 1 ≤ d) (hst : (st.map k_cat).sum ≤ 8)
    (hC : k_Ct G l y' cc' mL' rt' d' as h h1 (.inr E)) : k_J G l y cc mL rt d h0 h pc lv ast h1 (.inr E) := by
  obtain ⟨wB, w2⟩ := hw
  have o1 := hC.1
  have o2 := hC.2.1
  refine ⟨o1, o2, fun p e s m args below meth c C ht H locs k n ls hp hl hk hn hv => ?_⟩
  have hts := C.2.2.2.2.2.1
  have hE := C.2.2.2.2.2.2.2.2.1
  exact k_contX (vx_runS (As := as.map k_v) (n := n0) (nL := mL) (rest := st.map k_v) ⟨C.1, C.2.1, C.2.2.2.1, C.2.2.2.2.1, hts⟩ hC.2.2 ⟨k_cbOf hts wB hd, hts _ w2⟩ ⟨k_blind _ _ _, fun U hU hW => ⟨rfl, by rw [hU]; exact hp, k_E.warm hW hE⟩⟩ rfl (by rw [List.length_map]; exact hn9) hv.1 (by rw [← hr9]; simp [List.map_reverse]) (by rw [show (F0 m pc ls (ast.map k_v)).monitorRoom = 0 from rfl, k_catR]; omega) hdg (by show k + _ ≤ h1.2.1 - h0.2.1 ∧ n + _ ≤ h1.2.2 - h0.2.2; omega)) hl ht C.2.2.2.2.2.2.1 (by omega) (by omega)
/-- the words of 'throw new E("text")' -/
def k_thr (own cls text : String) (names : List String) (ik is ic : Nat) : Prop := own = RX11 ∧ Bundle.fit cls = true ∧ (∀ n ∈ names, Bundle.fit n = true) ∧ Cond.classLink own ik cls ∈ k_tbl ∧ Cond.initialized cls ∈ k_tbl ∧ (is, text) ∈ k_strs ∧ names.length ≤ 4 ∧
  (∀ w ∈ vx_atS own ic cls names, w ∈ k_tbl ∨ (∃ q ∈ k_casts, w = .castable q.1 q.2) ∨ ∃ x ∈ k_decls, w = .declares x)
theorem k_vxot {w : Cond} (h : w ∈ k_tbl) : vx_ot w = true := by
  have := (List.mem_filter.mp h).2
  simp only [vx_ot, Bool.or_eq_true]
  exact Or.inr this
theorem k_thrW {G : k_G} {own cls text : String} {names : List String} {ik is ic : Nat} {args : Array Value} {s : State} (hw : k_thr own cls text names ik is ic) (hts : ∀ w ∈ k_tbl, w.before args s = true) (hE : k_E G s) : (∀ w ∈ vx_atS own ic cls names, w.before args s = true) ∧ ∀ w ∈ Cond.classLink own ik cls :: Cond.initialized cls :: vx_atS own ic cls names, vx_ot w = true := by
  obtain ⟨w0, w1, w2, w3, w4, w5, w6, w7⟩ := hw
  refine ⟨fun w h => ?_, fun w h => ?_⟩
  · rcases w7 w h with e | ⟨q, hq, rfl⟩ | ⟨x, hx, rfl⟩
    · exact hts _ e
    · exact va_Nw.use rfl (hE.2.2.2.2.2.2.2.1 q hq)
    · exact va_Nw.use rfl (hE.2.2.2.2.2.2.2.2.2.2.2.2.2.2 x hx)
  · simp only [List.mem_cons] at h
    rcases h with rfl | rfl | h
    · exact k_vxot w3
    · exact k_vxot w4
    · rcases w7 w h with e | ⟨q, hq, rfl⟩ | ⟨x, hx, rfl⟩
      · exact k_vxot e
      · rfl
      · rfl
theorem k_hp_sk {G : k_G} {h : k_H} {H H1 : Heap} (hp : k_hp G h H) {n : Nat} (hz : H1.size = H.size + 1) (hq : ∀ q : Nat, q < H.size → H1[q]? = H[q]?) : k_hp G (k_sk h 1 n) H1 := by
  obtain ⟨p1, p2, p3, F, ow, h1, h2⟩ := hp
  exact ⟨by rw [hz, p1]; rfl, ⟨by have := p2.1; omega, by have := p2.2; omega⟩, fun q hq1 => by rw [hq q (by have := p2.1; omega)]; exact p3 q hq1, F, ow, fun q e he => ⟨(h1 q e he).1, (h1 q e he).2.kept (hq q (h1 q e he).2.lt)⟩, h2⟩
end KX
end
section
/-! the throws once more, with the size of the heap behind them (from vx_throwS, vx_throwSW of the printed laws) -/
section Ends
variable {p : Program} {l : Launch} {e : Env} {R : Room} {s : State} {m : MethodId} {args : Array Value} {below : List Frame} {meth : Method} {c : Code} {H : Heap} {locs : List Loc} {cells slots : Nat} {Q : State → Prop}
variable {mc ms : Nat} {free : Addr → Prop} {A0 A1 : Nat → Prop} {H0 : Heap} {a : Array Value} {ls : Array Slot} {st0 rest : List Value}
variable {Qc : Array Value → State → Outcome → State → Prop} {XC : String → State → State → Prop}
theorem k_throwS {cc : ByteArray} {pc : Nat} (hexec : p.tables.exec = Jvm.exec) (hb : c.code = cc) (hl : l.stackTraces = false) {own cls text : String} {names : List String} {ik is ic mc ms sa : Nat} {A : Nat → Prop}
    (hown : s.vm.findClass own = some m.cls) (hcls : Bundle.fit cls = true) (hnames : ∀ n ∈ names, Bundle.fit n = true)
    (hk : (Cond.classLink own ik cls).before args s = true) (hini : (Cond.initialized cls).before args s = true) (hstr : vk_R own is text sa s) (hat : ∀ w ∈ vx_atS own ic cls names, w.before args s = true)
    (hgood : ∀ w ∈ Cond.classLink own ik cls :: Cond.initialized cls :: vx_atS own ic cls names, vx_ot w = true)
    (hU : vx_Zq Bundle.tN "UNASSIGNED_STACK" Bundle.steD A s s.heap) (hN : vx_Zq Bundle.tN "SUPPRESSED_SENTINEL" Bundle.listD A s s.heap) (hS : va_S A s.heap H locs) (hsize : ls.size = c.maxLocals)
    (d0 : decode cc pc = .ok (.new ik, 3)) (d3 : decode cc (pc + 3) = .ok (.dup, 1)) (d4 : decode cc (pc + 4) = .ok (.ldc is, 2)) (d6 : decode cc (pc + 6) = .ok (.invokespecial ic, 3)) (d9 : decode cc (pc + 9) = .ok (.athrow, 1))
    (hout : ∀ x ∈ c.exceptionTable.toList, covers x (pc + 9) = false)
    (hRframes : names.length + 3 < R.frames) (hRlocals : (rest.map fun v => v.category).sum + (13 * (names.length + 1) + 43) ≤ R.locals) (hRcells : cells + 1 ≤ R.cells) (hRslots : slots + 6 ≤ R.slots) (hlocks : meth.locks = false)
    (hx : ∀ t : State, s.vm.Alike t.vm → t.heap.size = H.size + 1 → (∀ q : Nat, q < H.size → t.heap[q]? = H[q]?) → XC cls s t)
    (hf : ∀ z ∈ locs, free z.base) (hc : cells + 1 ≤ mc) (hs : slots + 6 ≤ ms) :
    W p l e R s m args below meth c H locs cells slots (vx_MQ below Qc XC args s mc ms free) (F0 m pc ls rest) := by
  intro T hT X
  have htr : e.platform.stackTraces = false := (show e.platform.stackTraces = l.stackTraces by rw [X.admits.platform]).trans hl
  have Y := vx_rebase X (R' := { frames := R.frames, locals := R.locals, cells := 1, slots := 6 }) (Nat.le_refl _) (Nat.le_refl _) hRcells hRslots
  obtain ⟨s', hA⟩ : ∃ z, z = (T.setVm s.vm).setFrames (.invoking m args :: below) := ⟨_, rfl⟩
  rw [← hA] at Y
  have hvm : s'.vm = s.vm := by rw [hA]; rfl
  have hhp : s'.heap = H := by rw [hA]; exact hT
  have hW0 : s.WarmedH s'.vm := by rw [hvm]; exact State.WarmedH.refl s
  have hat' : ∀ w ∈ vx_atS own ic cls names, w.before args s' = true := fun w hw => vx_ot_at hW0 hvm.symm (hgood w (List.mem_cons_of_mem _ (List.mem_cons_of_mem _ hw))) (hat w hw)
  have hk' : (Cond.classLink own ik cls).before args s' = true := vx_ot_at hW0 hvm.symm (hgood _ List.mem_cons_self) hk
  have hini' : (Cond.initialized cls).before args s' = true := vx_ot_at hW0 hvm.symm (hgood _ (List.mem_cons_of_mem _ List.mem_cons_self)) hini
  have hU' : vx_Zq Bundle.tN "UNASSIGNED_STACK" Bundle.steD A s' s'.heap := by rw [hhp]; exact vx_Zq.moved hW0.alike (hU.kept hS.2.1)
  have hN' : vx_Zq Bundle.tN "SUPPRESSED_SENTINEL" Bundle.listD A s' s'.heap := by rw [hhp]; exact vx_Zq.moved hW0.alike (hN.kept hS.2.1)
  have h : ∀ w ∈ Bundle.ownAtoms own ic cls names, w.before args s' = true := vx_own hat' (vx_isRefq hU'.1) (vx_isRefq hN'.1) hU'.2.word hN'.2.word
  have hown' : s'.vm.findClass own = some m.cls := by rw [hvm]; exact hown
  have hins : (Cond.instantiable cls 6).before args s' = true := h _ (by simp [Bundle.ownAtoms])
  obtain ⟨vm₁, cX, kX, hfX, hkX, -, -, X₁, st1⟩ := Y.newCold hexec (own := own) (C := cls) (index := ik) (n := 6) hown' hk' hins hini'
    (g := F0 m pc ls rest) rfl (by rw [hb]; exact d0) (Nat.le_refl _) (Nat.le_refl _)
  generalize hT1 : (T.setVm vm₁).pushCell { cls := cX, slots := kX.instanceTypes.map defaultValue, vm := .none } = T1 at X₁ st1
  have hcat : (Value.ref T.heap.size).category = 1 := rfl
  have hcellA : T1.heap[T.heap.size]? = some (freshCell cX kX) := by rw [← hT1]; exact State.heap_pushCell_size _ _
  have d3' : decode c.code (pc + 3) = .ok (.dup, 1) := by rw [hb]; exact d3
  have d4' : decode c.code (pc + 4) = .ok (.ldc is, 2) := by rw [hb]; exact d4
  have hstr' : vk_R own is text sa s' := vk_R.warm hW0 hstr
  obtain ⟨U, hsteps, hrun, hend, hW, hsame, ce, hce, hO⟩ := X₁.ctorThrowS hexec htr (own := own) (cls := cls) (names := names) (ic := ic) hown' hcls hnames h (fun x hx => nomatch hx) hfX hkX hcellA (by rw [hhp, hT]; exact Nat.le_refl _) (msg := .ref sa) rfl
    (g := { method := m, pc := pc + 6, locals := ls, stack := .ref sa :: .ref T.heap.size :: .ref T.heap.size :: rest, locked := none }) rfl hsize rfl rfl (rest := rest) rfl
    (by rw [hb]; exact d6) (by rw [hb]; exact d9) hout hRframes (by simp only [List.map_cons, List.sum_cons, hcat]; omega) hlocks
  obtain ⟨f1, f2⟩ := vx_frame hsame
  rw [hhp] at f1 f2
  have fz : U.heap.size = H.size + 1 := by
    have g1 := hsame.2.2.1
    rw [hhp] at g1
    have g2 := (Array.getElem?_eq_some_iff.mp hce).1
    rw [hT] at g2
    exact Nat.le_antisymm g1 g2
  have hWs : s.WarmedH U.vm := State.WarmedH.trans hW0 hW
  have hcl : s.vm.findClass cls = some ce.cls := by
    have h9 := hO.cls
    rw [hvm] at h9
    exact h9
  have hall : s.sameButNew ({ U with vm := s.vm } : State) locs mc ms := by
    subst hA
    obtain ⟨e1, e2⟩ := hsame
    rw [State.setFrames_setFrames] at e1
    have h2 : (T.setVm s.vm).sameButNew ({ U with vm := s.vm } : State) [] (0 + 1) (0 + 6) := ⟨e1, e2⟩
    have h3 := X.same.trans h2
    rw [List.append_nil] at h3
    exact h3.mono hc hs
  refine ⟨U, ?_, .threw T.heap.size, hrun, hend, Or.inr ⟨T.heap.size, rfl, cls, ce, locs, hx U hWs.alike fz (fun q hq => f2 q hq (fun z hz => nomatch hz)), hce, hO.vm, hcl, hWs, hall, hf⟩⟩
  refine st1 _ ?_
  show Steps p.tables e below (T1.setTop { method := m, pc := pc + 3, locals := ls, stack := .ref T.heap.size :: rest, locked := none }) _
  jvm_step X₁.here [X₁.here.top, hexec, d3', Value.category]
  exact X₁.ldcString hexec (own := own) (text := text) (index := is) (a := sa) hown' hstr'.1 hstr'.2
    (g := { method := m, pc := pc + 4, locals := ls, stack := .ref T.heap.size :: .ref T.heap.size :: rest, locked := none }) rfl d4' _ hsteps
theorem k_throwSW {cc : ByteArray} {pc : Nat} (hexec : p.tables.exec = Jvm.exec) (hb : c.code = cc) (hl : l.stackTraces = false) {own cls text : String} {names : List String} {ik is ic mc ms sa : Nat} {A : Nat → Prop}
    (hown : s.vm.findClass own = some m.cls) (hcls : Bundle.fit cls = true) (hnames : ∀ n ∈ names, Bundle.fit n = true)
    (hk : (Cond.classLink own ik cls).before args s = true) (hini : (Cond.initialized cls).before args s = true) (hstr : vk_R own is text sa s) (hat : ∀ w ∈ vx_atS own ic cls names, w.before args s = true)
    (hgood : ∀ w ∈ Cond.classLink own ik cls :: Cond.initialized cls :: vx_atS own ic cls names, vx_ot w = true)
    (hU : vx_Zq Bundle.tN "UNASSIGNED_STACK" Bundle.steD A s s.heap) (hN : vx_Zq Bundle.tN "SUPPRESSED_SENTINEL" Bundle.listD A s s.heap) (hS : va_S A s.heap H locs) (hsize : ls.size = c.maxLocals)
    (d0 : decode cc pc = .ok (.new ik, 3)) (d3 : decode cc (pc + 3) = .ok (.dup, 1)) (d4 : decode cc (pc + 4) = .ok (.ldc_w is, 3)) (d7 : decode cc (pc + 7) = .ok (.invokespecial ic, 3)) (d10 : decode cc (pc + 10) = .ok (.athrow, 1))
    (hout : ∀ x ∈ c.exceptionTable.toList, covers x (pc + 10) = false)
    (hRframes : names.length + 3 < R.frames) (hRlocals : (rest.map fun v => v.category).sum + (13 * (names.length + 1) + 43) ≤ R.locals) (hRcells : cells + 1 ≤ R.cells) (hRslots : slots + 6 ≤ R.slots) (hlocks : meth.locks = false)
    (hx : ∀ t : State, s.vm.Alike t.vm → t.heap.size = H.size + 1 → (∀ q : Nat, q < H.size → t.heap[q]? = H[q]?) → XC cls s t)
    (hf : ∀ z ∈ locs, free z.base) (hc : cells + 1 ≤ mc) (hs : slots + 6 ≤ ms) :
    W p l e R s m args below meth c H locs cells slots (vx_MQ below Qc XC args s mc ms free) (F0 m pc ls rest) := by
  intro T hT X
  have htr : e.platform.stackTraces = false := (show e.platform.stackTraces = l.stackTraces by rw [X.admits.platform]).trans hl
  have Y := vx_rebase X (R' := { frames := R.frames, locals := R.locals, cells := 1, slots := 6 }) (Nat.le_refl _) (Nat.le_refl _) hRcells hRslots
  obtain ⟨s', hA⟩ : ∃ z, z = (T.setVm s.vm).setFrames (.invoking m args :: below) := ⟨_, rfl⟩
  rw [← hA] at Y
  have hvm : s'.vm = s.vm := by rw [hA]; rfl
  have hhp : s'.heap = H := by rw [hA]; exact hT
  have hW0 : s.WarmedH s'.vm := by rw [hvm]; exact State.WarmedH.refl s
  have hat' : ∀ w ∈ vx_atS own ic cls names, w.before args s' = true := fun w hw => vx_ot_at hW0 hvm.symm (hgood w (List.mem_cons_of_mem _ (List.mem_cons_of_mem _ hw))) (hat w hw)
  have hk' : (Cond.classLink own ik cls).before args s' = true := vx_ot_at hW0 hvm.symm (hgood _ List.mem_cons_self) hk
  have hini' : (Cond.initialized cls).before args s' = true := vx_ot_at hW0 hvm.symm (hgood _ (List.mem_cons_of_mem _ List.mem_cons_self)) hini
  have hU' : vx_Zq Bundle.tN "UNASSIGNED_STACK" Bundle.steD A s' s'.heap := by rw [hhp]; exact vx_Zq.moved hW0.alike (hU.kept hS.2.1)
  have hN' : vx_Zq Bundle.tN "SUPPRESSED_SENTINEL" Bundle.listD A s' s'.heap := by rw [hhp]; exact vx_Zq.moved hW0.alike (hN.kept hS.2.1)
  have h : ∀ w ∈ Bundle.ownAtoms own ic cls names, w.before args s' = true := vx_own hat' (vx_isRefq hU'.1) (vx_isRefq hN'.1) hU'.2.word hN'.2.word
  have hown' : s'.vm.findClass own = some m.cls := by rw [hvm]; exact hown
  have hins : (Cond.instantiable cls 6).before args s' = true := h _ (by simp [Bundle.ownAtoms])
  obtain ⟨vm₁, cX, kX, hfX, hkX, -, -, X₁, st1⟩ := Y.newCold hexec (own := own) (C := cls) (index := ik) (n := 6) hown' hk' hins hini'
    (g := F0 m pc ls rest) rfl (by rw [hb]; exact d0) (Nat.le_refl _) (Nat.le_refl _)
  generalize hT1 : (T.setVm vm₁).pushCell { cls := cX, slots := kX.instanceTypes.map defaultValue, vm := .none } = T1 at X₁ st1
  have hcat : (Value.ref T.heap.size).category = 1 := rfl
  have hcellA : T1.heap[T.heap.size]? = some (freshCell cX kX) := by rw [← hT1]; exact State.heap_pushCell_size _ _
  have d3' : decode c.code (pc + 3) = .ok (.dup, 1) := by rw [hb]; exact d3
  have d4' : decode c.code (pc + 4) = .ok (.ldc_w is, 3) := by rw [hb]; exact d4
  have hstr' : vk_R own is text sa s' := vk_R.warm hW0 hstr
  obtain ⟨U, hsteps, hrun, hend, hW, hsame, ce, hce, hO⟩ := X₁.ctorThrowS hexec htr (own := own) (cls := cls) (names := names) (ic := ic) hown' hcls hnames h (fun x hx => nomatch hx) hfX hkX hcellA (by rw [hhp, hT]; exact Nat.le_refl _) (msg := .ref sa) rfl
    (g := { method := m, pc := pc + 7, locals := ls, stack := .ref sa :: .ref T.heap.size :: .ref T.heap.size :: rest, locked := none }) rfl hsize rfl rfl (rest := rest) rfl
    (by rw [hb]; exact d7) (by rw [hb]; exact d10) hout hRframes (by simp only [List.map_cons, List.sum_cons, hcat]; omega) hlocks
  obtain ⟨f1, f2⟩ := vx_frame hsame
  rw [hhp] at f1 f2
  have fz : U.heap.size = H.size + 1 := by
    have g1 := hsame.2.2.1
    rw [hhp] at g1
    have g2 := (Array.getElem?_eq_some_iff.mp hce).1
    rw [hT] at g2
    exact Nat.le_antisymm g1 g2
  have hWs : s.WarmedH U.vm := State.WarmedH.trans hW0 hW
  have hcl : s.vm.findClass cls = some ce.cls := by
    have h9 := hO.cls
    rw [hvm] at h9
    exact h9
  have hall : s.sameButNew ({ U with vm := s.vm } : State) locs mc ms := by
    subst hA
    obtain ⟨e1, e2⟩ := hsame
    rw [State.setFrames_setFrames] at e1
    have h2 : (T.setVm s.vm).sameButNew ({ U with vm := s.vm } : State) [] (0 + 1) (0 + 6) := ⟨e1, e2⟩
    have h3 := X.same.trans h2
    rw [List.append_nil] at h3
    exact h3.mono hc hs
  refine ⟨U, ?_, .threw T.heap.size, hrun, hend, Or.inr ⟨T.heap.size, rfl, cls, ce, locs, hx U hWs.alike fz (fun q hq => f2 q hq (fun z hz => nomatch hz)), hce, hO.vm, hcl, hWs, hall, hf⟩⟩
  refine st1 _ ?_
  show Steps p.tables e below (T1.setTop { method := m, pc := pc + 3, locals := ls, stack := .ref T.heap.size :: rest, locked := none }) _
  jvm_step X₁.here [X₁.here.top, hexec, d3', Value.category]
  exact X₁.ldcStringW hexec (own := own) (text := text) (index := is) (a := sa) hown' hstr'.1 hstr'.2
    (g := { method := m, pc := pc + 4, locals := ls, stack := .ref T.heap.size :: .ref T.heap.size :: rest, locked := none }) rfl d4' _ hsteps
end Ends
section KT
variable {G : k_G} {l : Launch} {y : MethodName} {cc : ByteArray} {mL : Nat} {rt : Option FieldType} {d : Nat} {h0 h h' : k_H} {pc : Nat} {lv : k_L} {st : List k_V} {r : k_R}
theorem k_flags {l : Launch} (h : l.flags = flags0) : l.stackTraces = false := by
  unfold Launch.stackTraces
  rw [h]
  decide +kernel
theorem j_throwS {cls text : String} {names : List String} {ik is ic : Nat} (hw : k_thr y.cls cls text names ik is ic) (d0 : decode cc pc = .ok (.new ik, 3)) (d3 : decode cc (pc + 3) = .ok (.dup, 1)) (d4 : decode cc (pc + 4) = .ok (.ldc is, 2)) (d6 : decode cc (pc + 6) = .ok (.invokespecial ic, 3)) (d9 : decode cc (pc + 9) = .ok (.athrow, 1)) (hd : 10 ≤ d) (hst : (st.map k_cat).sum ≤ 8) :
    k_J G l y cc mL rt d h0 h pc lv st (k_sk h 1 6) (.inr cls) := by
  refine ⟨Nat.le_add_right _ _, Nat.le_add_right _ _, fun p e s m args below meth c C ht H locs k n ls hp hl hk hn hv => ?_⟩
  have hts := C.2.2.2.2.2.1
  have hE := C.2.2.2.2.2.2.2.2.1
  have hs := C.2.2.2.2.2.2.2.2.2.1
  obtain ⟨v1, v2⟩ := k_thrW hw hts hE
  obtain ⟨w0, w1, w2, w3, w4, w5, w6, w7⟩ := hw
  obtain ⟨sa, hsa⟩ := hE.2.1 _ w5
  have hkeep : ∀ q : Nat, q < (k_H0 G).size → ¬ ((k_H0 G).size ≤ q) → s.heap[q]? = (k_H0 G)[q]? := fun q h1 _ => hs.2.2.1 q h1
  have hS : va_S (fun q => (k_H0 G).size ≤ q) s.heap H locs := ⟨by rw [hs.1, hp.1]; omega, fun q h1 h2 => by rw [hp.2.2.1 q (by omega), hs.2.2.1 q (by omega)], fun q hq => (hl q hq).1⟩
  exact k_throwS C.1 C.2.1 (k_flags C.2.2.2.2.2.2.2.2.2.2) C.2.2.2.2.1 w1 w2 (hts _ w3) (hts _ w4) (by rw [w0]; exact hsa) v1 v2 (hE.2.2.1.kept hkeep) (hE.2.2.2.1.kept hkeep) hS (by rw [hv.1, C.2.2.2.1]) d0 d3 d4 d6 d9 (k_noTable ht) (by show names.length + 3 < d; omega) (by rw [k_catR]; show _ ≤ 40 * d; omega) (by show k + 1 ≤ h.2.1 + 1 - h0.2.1; omega) (by show n + 6 ≤ h.2.2 + 6 - h0.2.2; omega) C.2.2.2.2.2.2.1 (fun t _ hz hq => ⟨rfl, k_hp_sk hp hz hq⟩) hl (by show k + 1 ≤ h.2.1 + 1 - h0.2.1; omega) (by show n + 6 ≤ h.2.2 + 6 - h0.2.2; omega)
theorem j_throwSW {cls text : String} {names : List String} {ik is ic : Nat} (hw : k_thr y.cls cls text names ik is ic) (d0 : decode cc pc = .ok (.new ik, 3)) (d3 : decode cc (pc + 3) = .ok (.dup, 1)) (d4 : decode cc (pc + 4) = .ok (.ldc_w is, 3)) (d6 : decode cc (pc + 7) = .ok (.invokespecial ic, 3)) (d9 : decode cc (pc + 10) = .ok (.athrow, 1)) (hd : 10 ≤ d) (hst : (st.map k_cat).sum ≤ 8) :
    k_J G l y cc mL rt d h0 h pc lv st (k_sk h 1 6) (.inr cls) := by
  refine ⟨Nat.le_add_right _ _, Nat.le_add_right _ _, fun p e s m args below meth c C ht H locs k n ls hp hl hk hn hv => ?_⟩
  have hts := C.2.2.2.2.2.1
  have hE := C.2.2.2.2.2.2.2.2.1
  have hs := C.2.2.2.2.2.2.2.2.2.1
  obtain ⟨v1, v2⟩ := k_thrW hw hts hE
  obtain ⟨w0, w1, w2, w3, w4, w5, w6, w7⟩ := hw
  obtain ⟨sa, hsa⟩ := hE.2.1 _ w5
  have hkeep : ∀ q : Nat, q < (k_H0 G).size → ¬ ((k_H0 G).size ≤ q) → s.heap[q]? = (k_H0 G)[q]? := fun q h1 _ => hs.2.2.1 q h1
  have hS : va_S (fun q => (k_H0 G).size ≤ q) s.heap H locs := ⟨by rw [hs.1, hp.1]; omega, fun q h1 h2 => by rw [hp.2.2.1 q (by omega), hs.2.2.1 q (by omega)], fun q hq => (hl q hq).1⟩
  exact k_throwSW C.1 C.2.1 (k_flags C.2.2.2.2.2.2.2.2.2.2) C.2.2.2.2.1 w1 w2 (hts _ w3) (hts _ w4) (by rw [w0]; exact hsa) v1 v2 (hE.2.2.1.kept hkeep) (hE.2.2.2.1.kept hkeep) hS (by rw [hv.1, C.2.2.2.1]) d0 d3 d4 d6 d9 (k_noTable ht) (by show names.length + 3 < d; omega) (by rw [k_catR]; show _ ≤ 40 * d; omega) (by show k + 1 ≤ h.2.1 + 1 - h0.2.1; omega) (by show n + 6 ≤ h.2.2 + 6 - h0.2.2; omega) C.2.2.2.2.2.2.1 (fun t _ hz hq => ⟨rfl, k_hp_sk hp hz hq⟩) hl (by show k + 1 ≤ h.2.1 + 1 - h0.2.1; omega) (by show n + 6 ≤ h.2.2 + 6 - h0.2.2; omega)
end KT
end
section
/-! Math.max, Math.min -/
section KM
variable {G : k_G} {l : Launch} {y : MethodName} {cc : ByteArray} {mL : Nat} {rt : Option FieldType} {d : Nat} {h0 h h' : k_H} {pc : Nat} {lv : k_L} {st : List k_V} {r : k_R}
theorem j_mmax {idx : Nat} {x z : Int32} (hdg : decode cc pc = .ok (.invokestatic idx, 3)) (h1 : Cond.methodLink y.cls idx Lib.Math.max.name ∈ k_tbl) (h2 : Cond.static Lib.Math.max.name ∈ k_tbl) (h3 : Cond.initialized "java/lang/Math" ∈ k_tbl) (h4 : Cond.code Lib.Math.max.name Lib.Math.max.code 2 (some .int) ∈ k_tbl) (hd : 1 ≤ d) (hst : (st.map k_cat).sum ≤ 8) (K : k_J G l y cc mL rt d h0 h (pc + 3) lv (vI (if x < z then z else x) :: st) h' r) : k_J G l y cc mL rt d h0 h pc lv (vI z :: vI x :: st) h' r :=
  ⟨K.1, K.2.1, fun p e s m args below meth c C ht H locs k n ls hp hl hk hn hv => by
    have hts := C.2.2.2.2.2.1
    have o1 := K.1
    have o2 := K.2.1
    exact va_mmax C.1 C.2.1 (by rw [hv.1, C.2.2.2.1]) C.2.2.2.2.1 (hts _ h1) (hts _ h2) (hts _ h3) (hts _ h4) hd (by rw [k_catR]; show _ ≤ 40 * d; omega) (by show k ≤ h'.2.1 - h0.2.1; omega) (by show n ≤ h'.2.2 - h0.2.2; omega) hdg (K.2.2 p e s m args below meth c C ht H locs k n ls hp hl hk hn hv)⟩
theorem j_mmin {idx : Nat} {x z : Int32} (hdg : decode cc pc = .ok (.invokestatic idx, 3)) (h1 : Cond.methodLink y.cls idx Lib.Math.min.name ∈ k_tbl) (h2 : Cond.static Lib.Math.min.name ∈ k_tbl) (h3 : Cond.initialized "java/lang/Math" ∈ k_tbl) (h4 : Cond.code Lib.Math.min.name Lib.Math.min.code 2 (some .int) ∈ k_tbl) (hd : 1 ≤ d) (hst : (st.map k_cat).sum ≤ 8) (K : k_J G l y cc mL rt d h0 h (pc + 3) lv (vI (if z < x then z else x) :: st) h' r) : k_J G l y cc mL rt d h0 h pc lv (vI z :: vI x :: st) h' r :=
  ⟨K.1, K.2.1, fun p e s m args below meth c C ht H locs k n ls hp hl hk hn hv => by
    have hts := C.2.2.2.2.2.1
    have o1 := K.1
    have o2 := K.2.1
    exact va_mmin C.1 C.2.1 (by rw [hv.1, C.2.2.2.1]) C.2.2.2.2.1 (hts _ h1) (hts _ h2) (hts _ h3) (hts _ h4) hd (by rw [k_catR]; show _ ≤ 40 * d; omega) (by show k ≤ h'.2.1 - h0.2.1; omega) (by show n ≤ h'.2.2 - h0.2.2; omega) hdg (K.2.2 p e s m args below meth c C ht H locs k n ls hp hl hk hn hv)⟩
theorem j_mmaxL {idx : Nat} {x z : Int64} (hdg : decode cc pc = .ok (.invokestatic idx, 3)) (h1 : Cond.methodLink y.cls idx Lib.MathLoose.max_long.x ∈ k_tbl) (h2 : Cond.static Lib.MathLoose.max_long.x ∈ k_tbl) (h3 : Cond.initialized "java/lang/Math" ∈ k_tbl) (h4 : Cond.code Lib.MathLoose.max_long.x Lib.MathLoose.max_long.code 4 (some .long) ∈ k_tbl) (hd : 1 ≤ d) (hst : (st.map k_cat).sum ≤ 8) (K : k_J G l y cc mL rt d h0 h (pc + 3) lv (vJ (if z < x then x else z) :: st) h' r) : k_J G l y cc mL rt d h0 h pc lv (vJ z :: vJ x :: st) h' r :=
  ⟨K.1, K.2.1, fun p e s m args below meth c C ht H locs k n ls hp hl hk hn hv => by
    have hts := C.2.2.2.2.2.1
    have o1 := K.1
    have o2 := K.2.1
    exact va_mmax_long C.1 C.2.1 (by rw [hv.1, C.2.2.2.1]) C.2.2.2.2.1 (hts _ h1) (hts _ h2) (hts _ h3) (hts _ h4) hd (by rw [k_catR]; show _ ≤ 40 * d; omega) (by show k ≤ h'.2.1 - h0.2.1; omega) (by show n ≤ h'.2.2 - h0.2.2; omega) hdg (K.2.2 p e s m args below meth c C ht H locs k n ls hp hl hk hn hv)⟩
theorem j_mminL {idx : Nat} {x z : Int64} (hdg : decode cc pc = .ok (.invokestatic idx, 3)) (h1 : Cond.methodLink y.cls idx Lib.MathLoose.min_long.x ∈ k_tbl) (h2 : Cond.static Lib.MathLoose.min_long.x ∈ k_tbl) (h3 : Cond.initialized "java/lang/Math" ∈ k_tbl) (h4 : Cond.code Lib.MathLoose.min_long.x Lib.MathLoose.min_long.code 4 (some .long) ∈ k_tbl) (hd : 1 ≤ d) (hst : (st.map k_cat).sum ≤ 8) (K : k_J G l y cc mL rt d h0 h (pc + 3) lv (vJ (if z < x then z else x) :: st) h' r) : k_J G l y cc mL rt d h0 h pc lv (vJ z :: vJ x :: st) h' r :=
  ⟨K.1, K.2.1, fun p e s m args below meth c C ht H locs k n ls hp hl hk hn hv => by
    have hts := C.2.2.2.2.2.1
    have o1 := K.1
    have o2 := K.2.1
    exact va_mmin_long C.1 C.2.1 (by rw [hv.1, C.2.2.2.1]) C.2.2.2.2.1 (hts _ h1) (hts _ h2) (hts _ h3) (hts _ h4) hd (by rw [k_catR]; show _ ≤ 40 * d; omega) (by show k ≤ h'.2.1 - h0.2.1; omega) (by show n ≤ h'.2.2 - h0.2.2; omega) hdg (K.2.2 p e s m args below meth c C ht H locs k n ls hp hl hk hn hv)⟩
end KM
/-! THE JUDGEMENT WITH A POSTCONDITION; contracts by the kind of their answer -/
abbrev k_T : Type := List k_V → k_H → k_H → k_R → Prop
abbrev k_B : Type := k_H → Nat → k_L → List k_V → k_H → k_R → Prop
def k_X (J : k_B) (h : k_H) (pc : Nat) (lv : k_L) (st : List k_V) (Q : k_H → k_R → Prop) : Prop := ∃ (h' : k_H) (r : k_R), J h pc lv st h' r ∧ Q h' r
def k_ct (T : k_T) (as : List k_V) (h : k_H) (Q : k_H → k_R → Prop) : Prop := ∃ (h' : k_H) (r : k_R), T as h h' r ∧ Q h' r
def k_cti (T : k_T) (as : List k_V) (h : k_H) (P : k_H → Int32 → Prop) : Prop := ∃ (h' : k_H) (v : Int32), T as h h' (.inl (some (vI v))) ∧ P h' v
def k_ctj (T : k_T) (as : List k_V) (h : k_H) (P : k_H → Int64 → Prop) : Prop := ∃ (h' : k_H) (v : Int64), T as h h' (.inl (some (vJ v))) ∧ P h' v
def k_ctr (T : k_T) (as : List k_V) (h : k_H) (P : k_H → Option Nat → Prop) : Prop := ∃ (h' : k_H) (v : Option Nat), T as h h' (.inl (some (vR v))) ∧ P h' v
def k_ctv (T : k_T) (as : List k_V) (h : k_H) (P : k_H → Prop) : Prop := ∃ h' : k_H, T as h h' (.inl none) ∧ P h'
def k_ctx (T : k_T) (as : List k_V) (h : k_H) (E : String) (P : k_H → Prop) : Prop := ∃ h' : k_H, T as h h' (.inr E) ∧ P h'
abbrev q_i (P : k_H → Int32 → Prop) : k_H → k_R → Prop := fun h' r => ∃ v, r = .inl (some (vI v)) ∧ P h' v
abbrev q_j (P : k_H → Int64 → Prop) : k_H → k_R → Prop := fun h' r => ∃ v, r = .inl (some (vJ v)) ∧ P h' v
abbrev q_r (P : k_H → Option Nat → Prop) : k_H → k_R → Prop := fun h' r => ∃ v, r = .inl (some (vR v)) ∧ P h' v
abbrev q_v (P : k_H → Prop) : k_H → k_R → Prop := fun h' r => r = .inl none ∧ P h'
abbrev q_x (E : String) (P : k_H → Prop) : k_H → k_R → Prop := fun h' r => r = .inr E ∧ P h'
theorem k_cti_of {T : k_T} {as : List k_V} {h : k_H} {P : k_H → Int32 → Prop} (c : k_ct T as h (q_i P)) : k_cti T as h P := by
  obtain ⟨h', r, t, v, rfl, p⟩ := c
  exact ⟨h', v, t, p⟩
theorem k_ctj_of {T : k_T} {as : List k_V} {h : k_H} {P : k_H → Int64 → Prop} (c : k_ct T as h (q_j P)) : k_ctj T as h P := by
  obtain ⟨h', r, t, v, rfl, p⟩ := c
  exact ⟨h', v, t, p⟩
theorem k_ctr_of {T : k_T} {as : List k_V} {h : k_H} {P : k_H → Option Nat → Prop} (c : k_ct T as h (q_r P)) : k_ctr T as h P := by
  obtain ⟨h', r, t, v, rfl, p⟩ := c
  exact ⟨h', v, t, p⟩
theorem k_ctv_of {T : k_T} {as : List k_V} {h : k_H} {P : k_H → Prop} (c : k_ct T as h (q_v P)) : k_ctv T as h P := by
  obtain ⟨h', r, t, rfl, p⟩ := c
  exact ⟨h', t, p⟩
theorem k_ctx_of {T : k_T} {as : List k_V} {h : k_H} {E : String} {P : k_H → Prop} (c : k_ct T as h (q_x E P)) : k_ctx T as h E P := by
  obtain ⟨h', r, t, rfl, p⟩ := c
  exact ⟨h', t, p⟩
/-- fields written one after the other -/
theorem k_gs {fs : List k_V} {i j : Nat} {v w : k_V} (hij : i ≠ j) (h : fs[j]? = some v) : (fs.set i w)[j]? = some v := (List.getElem?_set_ne hij).trans h
theorem k_ss {fs : List k_V} {i n : Nat} {w : k_V} (hl : fs.length = n) (hi : i < n) : (fs.set i w)[i]? = some w := List.getElem?_set_self (by omega)
theorem k_ls {fs : List k_V} {i n : Nat} {w : k_V} (hl : fs.length = n) : (fs.set i w).length = n := (List.length_set ..).trans hl
theorem k_ln {fs : List k_V} {i n : Nat} (hl : fs.length = n) (hi : i < n) : i < fs.length := by omega
theorem k_uu (h : k_H) (a : Nat) (c c2 : k_C) : k_up (k_up h a c) a c2 = k_up h a c2 := by
  unfold k_up
  congr 1
  funext q
  by_cases e : q = a <;> simp [e]
end
section
/-! ROWS OF THE JDK'S LISTS: rows of references, the inherited field, ArrayList's empty row, class objects; and lists opened and closed -/
def k_fldS (own : String) (idx ci k : Nat) : Prop := ∃ (C ref : String) (T : u_T) (N : Nat), vwCl[ci]? = some (C, T, N) ∧ k < N ∧ (∀ w ∈ u_ws C T N, w ∈ k_tbl) ∧ Cond.fieldLink own idx ref (T k).2.1 (T k).2.2.1 ∈ k_tbl ∧ Cond.sameField ref (T k).1 (T k).2.1 (T k).2.2.1 ∈ k_tbl
def k_fldSP (own : String) (idx ci k : Nat) (ty : FieldType) : Prop := ∃ (C ref : String) (T : u_T) (N : Nat) (ty0 : Nat → FieldType), vwCl[ci]? = some (C, T, N) ∧ k < N ∧ (∀ w ∈ u_ws C T N, w ∈ k_tbl) ∧ Cond.fieldLink own idx ref (T k).2.1 (T k).2.2.1 ∈ k_tbl ∧ Cond.sameField ref (T k).1 (T k).2.1 (T k).2.2.1 ∈ k_tbl ∧
  (∀ k, k < N → parseFieldDescriptor (T k).2.2.1 = some (ty0 k)) ∧ (∀ a, a < N → ∀ b, b < N → a ≠ b → (T a).2.1 ≠ (T b).2.1) ∧ (T k).2.2.2 = false ∧ parseFieldDescriptor (T k).2.2.1 = some ty
theorem k_hp_q {G : k_G} {h : k_H} {H : Heap} (hp : k_hp G h H) {a n : Nat} {f : Nat → Option Nat} (ho : h.1 a = some (k_q n f)) : va_at (k_D G) vwCl (a, .inl (k_cQ G, n, .inr (.inr (.inr (.inr f))))) H := by
  obtain ⟨-, -, -, F, ow, h1, h2⟩ := hp
  exact (h1 _ _ (h2 _ _ ho)).2
theorem k_hp_gq {G : k_G} {h : k_H} {H : Heap} (hp : k_hp G h H) {a n : Nat} {f : Nat → Option Nat} (ho : h.1 a = some (k_q n f)) : k_we G a := by
  obtain ⟨-, -, -, F, ow, h1, h2⟩ := hp
  exact (h1 _ _ (h2 _ _ ho)).1
/-- classes whose objects may lie in a row of Objects -/
def k_toObj (ci : Nat) : Prop := ∃ (C : String) (T : u_T) (N : Nat), vwCl[ci]? = some (C, T, N) ∧ (C, "java/lang/Object") ∈ k_casts
theorem k_any {G : k_G} {s : State} {h : k_H} {H : Heap} {b ci : Nat} (hE : k_E G s) (hp : k_hp G h H) (hi : k_is h b ci) (hc : k_toObj ci) : va_Any "java/lang/Object" s H b := by
  obtain ⟨C, T, N, h1, h2⟩ := hc
  obtain ⟨cell, g1, g2, g3⟩ := k_recv hE hp hi h1
  obtain ⟨kC, hkC, -⟩ := Vm.findClass_spec g3
  obtain ⟨c3, c4, hc3, hc4, hasg⟩ := Cond.castable_spec (va_Nw.use (A := #[]) rfl (hE.2.2.2.2.2.2.2.1 _ h2))
  refine ⟨cell, g1, g2, ⟨kC, hkC⟩, fun comp hcm => ?_⟩
  cases Option.some.inj (hc3.symm.trans g3)
  cases Option.some.inj (hc4.symm.trans hcm)
  exact hasg
section KR
variable {G : k_G} {l : Launch} {y : MethodName} {cc : ByteArray} {mL : Nat} {rt : Option FieldType} {d : Nat} {h0 h h' : k_H} {pc : Nat} {lv : k_L} {st : List k_V} {r : k_R}
theorem j_getfS {a idx ci k : Nat} {fs : List k_V} {v : k_V} (hdg : decode cc pc = .ok (.getfield idx, 3)) (hf : k_fldS y.cls idx ci k) (ho : h.1 a = some (k_o ci fs)) (hv9 : fs[k]? = some v) (K : k_J G l y cc mL rt d h0 h (pc + 3) lv (v :: st) h' r) : k_J G l y cc mL rt d h0 h pc lv (vR (some a) :: st) h' r := by
  obtain ⟨C9, ref, T, N, f1, f2, f3, f4, f5⟩ := hf
  exact ⟨K.1, K.2.1, fun p e s m args below meth c C ht H locs k n ls hp hl hk hn hv => va_get (Ts := k_tbl) C.1 C.2.1 C.2.2.2.2.2.1 f3 C.2.2.2.2.1 C.2.2.2.2.2.2.2.2.1.K (k_P1 (k_hp_cell hp ho)) 0 rfl f1 _ f2 (C.2.2.2.2.2.1 _ f4) (fun x h9 => u_same (C.2.2.2.2.2.1 _ f5) x h9) (k_mv hv9) hdg (K.2.2 p e s m args below meth c C ht H locs k n ls hp hl hk hn hv)⟩
theorem j_putfS {a idx ci k : Nat} {fs fs9 : List k_V} {v : k_V} {ty : FieldType} (hdg : decode cc pc = .ok (.putfield idx, 3)) (hf : k_fldSP y.cls idx ci k ty) (ho : h.1 a = some (k_o ci fs)) (hl9 : k < fs.length) (hv9 : k_fit ty v) (hs9 : fs.set k v = fs9) (K : k_J G l y cc mL rt d h0 (k_up h a (k_o ci fs9)) (pc + 3) lv st h' r) : k_J G l y cc mL rt d h0 h pc lv (v :: vR (some a) :: st) h' r := by
  subst hs9
  obtain ⟨C9, ref, T, N, ty0, f1, f2, f3, f4, f4', f5, f6, f7, f8⟩ := hf
  refine ⟨K.1, K.2.1, fun p e s m args below meth c C ht H locs k9 n ls hp hl hk hn hv => ?_⟩
  have hts := C.2.2.2.2.2.1
  have hKs := C.2.2.2.2.2.2.2.2.1.K
  have hap := va_apart (own := y.cls) hts f3 ty0 f5 f6 hKs f1
  obtain ⟨r9, h1, cell, q1, q2, q3, q4⟩ := k_hp_cell hp ho
  have hr : r9 = (C9, T, N) := Option.some.inj (h1.symm.trans f1)
  subst hr
  obtain ⟨hS, hfc, kC, hkC, hkind⟩ := hKs.1 ci _ f1
  obtain ⟨cf, kf, fi, f, hi, hsl⟩ := hS k f2
  have hlay := hts _ (f3 _ (u_in_lay f2))
  unfold u_lay at hlay
  rw [if_neg (by rw [f7]; decide)] at hlay
  have hst := (u_facts hfc hkC (u_lays hts f3 f2) hi).1
  have h6 := u_store hfc hkC hkind hlay hi f8 hv9.1 hv9.2
  refine W.putK C.1 C.2.1 (f := f) ⟨C.2.2.2.2.1, hts _ f4, ⟨_, _, _, u_same (hts _ f4') _ hi⟩, hst⟩ (by rw [q2]; exact h6) q1 q3 (by rw [hsl]; exact k2_hasslot (q4 k f2)) rfl rfl hdg fun H' e1 e2 e3 => ?_
  rw [hsl] at e1 ⊢
  refine K.2.2 p e s m args below meth c C ht H' _ k9 n ls (k_hp_set hp ho (fun _ _ h => by cases h) e2 e3 (e := .inr (ci, (fs.set k v).map k_v)) ⟨_, f1, ?_⟩ (fun _ _ _ h => h)) (k_locs hl (k_hp_ge hp ho)) hk hn hv
  rw [List.map_set]
  exact t_OB.to (V := updV (vp_V (fs.map k_v)) k (k_v v)) ⟨_, e1, q2, q3, t_set q4 hap f2 (k_v v)⟩ (fun j _ => vp_updV_set (by rw [List.length_map]; exact hl9) (k_v v) j)
theorem j_aald {a n0 : Nat} {f : Nat → Option Nat} {i : Int32} (hdg : decode cc pc = .ok (.aaload, 1)) (ho : h.1 a = some (k_q n0 f)) (hi : vp_in i n0) (K : k_J G l y cc mL rt d h0 h (pc + 1) lv (vR (f i.toNatClampNeg) :: st) h' r) : k_J G l y cc mL rt d h0 h pc lv (vI i :: vR (some a) :: st) h' r :=
  ⟨K.1, K.2.1, fun p e s m args below meth c C ht H locs k n ls hp hl hk hn hv => by
    have K9 := K.2.2 p e s m args below meth c C ht H locs k n ls hp hl hk hn hv
    refine va_aldq C.1 C.2.1 C.2.2.2.2.2.2.2.2.1.K (k_P1 (k_hp_q hp ho)) 0 3 rfl rfl hi hdg ?_
    rw [← k_v_rf]
    exact K9⟩
theorem j_aast {a n0 : Nat} {f : Nat → Option Nat} {i : Int32} {v : Option Nat} (hdg : decode cc pc = .ok (.aastore, 1)) (ho : h.1 a = some (k_q n0 f)) (hi : vp_in i n0) (hv9 : ∀ b, v = some b → ∃ ci, k_is h b ci ∧ k_toObj ci) (K : k_J G l y cc mL rt d h0 (k_up h a (k_q n0 (va_up f i.toNatClampNeg v))) (pc + 1) lv st h' r) : k_J G l y cc mL rt d h0 h pc lv (vR v :: vI i :: vR (some a) :: st) h' r := by
  refine ⟨K.1, K.2.1, fun p e s m args below meth c C ht H locs k n ls hp hl hk hn hv => ?_⟩
  have hE := C.2.2.2.2.2.2.2.2.1
  have hKs := hE.K
  have hlt : i.toNatClampNeg < n0 := Nat.not_le.mp fun q => hi (Or.inr q)
  have h0' : ¬ i < 0 := fun q => hi (Or.inl q)
  have fin : ∀ H1 : Heap, H1[a]? = some ((vp_cell (k_cQ G) (n0, .inr (.inr (.inr (.inr f))))).setSlot i.toNatClampNeg (va_rf v)) → H1.size = H.size → (∀ q, q ≠ a → H1[q]? = H[q]?) → k_hp G (k_up h a (k_q n0 (va_up f i.toNatClampNeg v))) H1 := fun H1 e1 z oq => by
    refine k_hp_set hp ho (fun _ _ h => by cases h) z oq (e := .inl (k_cQ G, n0, .inr (.inr (.inr (.inr (va_up f i.toNatClampNeg v)))))) ?_ (fun _ _ _ h => h)
    show H1[a]? = some (vp_cell _ _)
    rw [e1]
    rw [vp_cell_q, vp_cell_q, arrV_store]
    congr 2
    funext q
    simp only [updV, va_up]
    split <;> rfl
  cases v with
  | none =>
    exact va_WaastN (C := "java/lang/Object") C.1 C.2.1 (k_hp_q hp ho) ((hKs.2 3 _ rfl).1 n0 (fun j => va_rf (f j))) (fun h => by cases h) (by show ¬ (i < 0 ∨ (arrV _ _ _).slots.size ≤ _); rw [arrV_size]; exact hi) rfl rfl hdg fun H1 e1 z oq => K.2.2 p e s m args below meth c C ht H1 _ k n ls (fin H1 e1 z oq) (k_locs hl (k_hp_gq hp ho)) hk hn hv
  | some b =>
    obtain ⟨ci, w1, w2⟩ := hv9 b rfl
    obtain ⟨cellV, g1, g3, ⟨kC, hkC⟩, hasg⟩ := k_any hE hp w1 w2
    obtain ⟨kA, comp, k1, k2, k3, -⟩ := (hKs.2 3 _ rfl).2
    obtain ⟨kE, hkE, -⟩ := Vm.findClass_spec k3
    exact W.aast C.1 C.2.1 (cell := vp_cell (k_cQ G) (n0, .inr (.inr (.inr (.inr f))))) (k_hp_q hp ho) (fun q h => by cases h) (fun h => by cases h) k1 k2 rfl hkE ⟨h0', by show _ < (arrV _ _ _).slots.size; rw [arrV_size]; exact hlt⟩ g1 (fun q h => by rw [h] at g3; cases g3) hkC (hasg _ k3) rfl rfl hdg fun H1 e1 z oq => K.2.2 p e s m args below meth c C ht H1 _ k n ls (fin H1 e1 z oq) (k_locs hl (k_hp_gq hp ho)) hk hn hv
theorem j_anew {idx : Nat} {n0 : Int32} {N : Nat} (hdg : decode cc pc = .ok (.anewarray idx, 3)) (hc9 : Cond.classLink y.cls idx "java/lang/Object" ∈ k_tbl) (hN : n0 = nI N) (hb : N < 2 ^ 20) (K : k_J G l y cc mL rt d h0 (k_nw h N (k_q N (fun _ => none))) (pc + 3) lv (vR (some h.2.1) :: st) h' r) : k_J G l y cc mL rt d h0 h pc lv (vI n0 :: st) h' r := by
  have e1 : h.2.1 + 1 ≤ h'.2.1 := K.1
  have e2 : h.2.2 + N ≤ h'.2.2 := K.2.1
  refine ⟨by omega, by omega, fun p e s m args below meth c C ht H locs k n ls hp hl hk hn hv => ?_⟩
  have hE := C.2.2.2.2.2.2.2.2.1
  have hKs := hE.K
  have hcl : (nI N).toNatClampNeg = N := nI_clamp (by omega)
  subst hN
  refine W.anew C.1 C.2.1 C.2.2.2.2.1 (C.2.2.2.2.2.1 _ hc9) (va_AO.use hE.2.2.2.2.2.2.2.2.2.2.2.2.2.1) rfl hdg rfl (nI_pos (by omega)) (by rw [hcl]; omega) (by show k + 1 ≤ h'.2.1 - h0.2.1; omega) (by rw [hcl]; show n + N ≤ h'.2.2 - h0.2.2; omega) fun cA kA comp f1 f2 f3 f4 => ?_
  have hcc : cA = k_cQ G := by
    obtain ⟨-, -, -, -, -, h9⟩ := (hKs.2 3 _ rfl).2
    exact Option.some.inj (f1.symm.trans h9)
  subst hcc
  rw [hcl]
  generalize hH1 : H.push ({ cls := k_cQ G, slots := Array.replicate N .null, vm := .none } : Cell) = H1
  have z2 : H1.size = H.size + 1 := by rw [← hH1, Array.size_push]
  have z1 : H1[H.size]? = some (arrV (k_cQ G) N (fun _ => .null)) := by rw [← hH1, Array.getElem?_push_size, ← arrV_new]
  have o1 : ∀ q : Nat, q < H.size → H1[q]? = H[q]? := fun q hq => by rw [← hH1, Array.getElem?_push, if_neg (Nat.ne_of_lt hq)]
  have K9 := K.2.2 p e s m args below meth c C ht H1 locs (k + 1) (n + N) ls (k_hp_new hp (n := N) (c := k_q N (fun _ => none)) z2 o1 (e := .inl (k_cQ G, N, .inr (.inr (.inr (.inr (fun _ => none)))))) (by show H1[H.size]? = some (vp_cell _ _); rw [z1, vp_cell_q]; rfl) (fun _ _ _ h => h)) hl (by show k + 1 + h0.2.1 = h.2.1 + 1; omega) (by show n + N + h0.2.2 = h.2.2 + N; omega) hv
  rw [← hp.1] at K9
  exact K9
theorem j_qlen {a n0 : Nat} {f : Nat → Option Nat} (hdg : decode cc pc = .ok (.arraylength, 1)) (ho : h.1 a = some (k_q n0 f)) (K : k_J G l y cc mL rt d h0 h (pc + 1) lv (vI (nI n0) :: st) h' r) : k_J G l y cc mL rt d h0 h pc lv (vR (some a) :: st) h' r :=
  ⟨K.1, K.2.1, fun p e s m args below meth c C ht H locs k n ls hp hl hk hn hv => va_alen C.1 C.2.1 C.2.2.2.2.2.2.2.2.1.K (k_P1 (k_hp_q hp ho)) 0 3 rfl rfl rfl hdg (K.2.2 p e s m args below meth c C ht H locs k n ls hp hl hk hn hv)⟩
theorem k_hS {G : k_G} {h0 h : k_H} {s : State} {H : Heap} {locs : List Loc} {k : Nat} (hs : k_hp G h0 s.heap) (hp : k_hp G h H) (hk : k + h0.2.1 = h.2.1) (hl : ∀ q ∈ locs, k_we G q.base) : va_S (fun q => (k_H0 G).size ≤ q) s.heap H locs := ⟨by rw [hs.1, hp.1]; omega, fun q h1 h2 => by rw [hp.2.2.1 q (by omega), hs.2.2.1 q (by omega)], fun q hq => (hl q hq).1⟩
theorem k_keep {G : k_G} {h0 : k_H} {s : State} (hs : k_hp G h0 s.heap) : ∀ q : Nat, q < (k_H0 G).size → ¬ ((k_H0 G).size ≤ q) → s.heap[q]? = (k_H0 G)[q]? := fun q h1 _ => hs.2.2.1 q h1
theorem j_zlen (hdg : decode cc pc = .ok (.arraylength, 1)) (K : k_J G l y cc mL rt d h0 h (pc + 1) lv (vI 0 :: st) h' r) : k_J G l y cc mL rt d h0 h pc lv (vR (some (k_z0 G)) :: st) h' r :=
  ⟨K.1, K.2.1, fun p e s m args below meth c C ht H locs k n ls hp hl hk hn hv => by
    have hE := C.2.2.2.2.2.2.2.2.1
    have hs := C.2.2.2.2.2.2.2.2.2.1
    exact va_tlen C.1 C.2.1 (va_T.kept hE.2.2.2.2.2.1 (k_keep hs)) (k_hS hs hp hk hl) rfl hdg (K.2.2 p e s m args below meth c C ht H locs k n ls hp hl hk hn hv)⟩
theorem j_getsE {idx : Nat} (hdg : decode cc pc = .ok (.getstatic idx, 3)) (hw : Cond.fieldLink y.cls idx k_AL "DEFAULTCAPACITY_EMPTY_ELEMENTDATA" k_OA ∈ k_tbl) (K : k_J G l y cc mL rt d h0 h (pc + 3) lv (vR (some (k_z0 G)) :: st) h' r) : k_J G l y cc mL rt d h0 h pc lv st h' r :=
  ⟨K.1, K.2.1, fun p e s m args below meth c C ht H locs k n ls hp hl hk hn hv => by
    have hE := C.2.2.2.2.2.2.2.2.1
    have hs := C.2.2.2.2.2.2.2.2.2.1
    exact va_gets C.1 C.2.1 (va_Z.kept hE.2.2.2.2.1 (k_keep hs)) (k_hS hs hp hk hl) C.2.2.2.2.1 (C.2.2.2.2.2.1 _ hw) (fun _ h9 => h9) hdg (K.2.2 p e s m args below meth c C ht H locs k n ls hp hl hk hn hv)⟩
theorem j_ldcM {idx : Nat} (hdg : decode cc pc = .ok (.ldc idx, 2)) (hw : Cond.classLink y.cls idx k_OA ∈ k_tbl) (K : k_J G l y cc mL rt d h0 h (pc + 2) lv (vR (some (k_mi G)) :: st) h' r) : k_J G l y cc mL rt d h0 h pc lv st h' r :=
  ⟨K.1, K.2.1, fun p e s m args below meth c C ht H locs k n ls hp hl hk hn hv => va_ldcM C.1 C.2.1 C.2.2.2.2.1 (C.2.2.2.2.2.1 _ hw) C.2.2.2.2.2.2.2.2.1.2.2.2.2.2.2.2.2.2.2.2.2.1 hdg (K.2.2 p e s m args below meth c C ht H locs k n ls hp hl hk hn hv)⟩
theorem j_ishr {x z : Int32} (hdg : decode cc pc = .ok (.ishr, 1)) (K : k_J G l y cc mL rt d h0 h (pc + 1) lv (vI (x >>> (z &&& 31)) :: st) h' r) : k_J G l y cc mL rt d h0 h pc lv (vI z :: vI x :: st) h' r :=
  ⟨K.1, K.2.1, fun p e s m args below meth c C ht H locs k n ls hp hl hk hn hv => lv_ishr C.1 C.2.1 hdg (K.2.2 p e s m args below meth c C ht H locs k n ls hp hl hk hn hv)⟩
end KR
end
section
section KR2
variable {G : k_G} {l : Launch} {y : MethodName} {cc : ByteArray} {mL : Nat} {rt : Option FieldType} {d : Nat} {h0 h h' : k_H} {pc : Nat} {lv : k_L} {st : List k_V} {r : k_R}
abbrev k_gcN : MethodName := ⟨"java/lang/Object", "getClass", "()Ljava/lang/Class;"⟩
theorem k_qrecv {G : k_G} {s : State} {h : k_H} {H : Heap} {a n : Nat} {f : Nat → Option Nat} (hE : k_E G s) (hp : k_hp G h H) (ho : h.1 a = some (k_q n f)) : ∃ cell : Cell, H[a]? = some cell ∧ cell.vm.isStatics = false ∧ s.vm.findClass k_OA = some cell.cls := by
  refine ⟨vp_cell (k_cQ G) (n, .inr (.inr (.inr (.inr f)))), k_hp_q hp ho, rfl, ?_⟩
  obtain ⟨-, -, -, -, -, h9⟩ := (hE.K.2 3 _ rfl).2
  exact h9
theorem j_getC {idx a n0 : Nat} {f : Nat → Option Nat} (hdg : decode cc pc = .ok (.invokevirtual idx, 3)) (hw : Cond.methodLink y.cls idx k_gcN ∈ k_tbl) (hw2 : Cond.selects k_OA k_gcN k_gcN ∈ k_tbl) (hw3 : Cond.instanceMethod k_gcN ∈ k_tbl) (hw4 : Cond.native k_gcN ∈ k_tbl) (ho : h.1 a = some (k_q n0 f)) (hd : 1 ≤ d) (hst : (st.map k_cat).sum ≤ 8) (K : k_J G l y cc mL rt d h0 h (pc + 3) lv (vR (some (k_mi G)) :: st) h' r) : k_J G l y cc mL rt d h0 h pc lv (vR (some a) :: st) h' r :=
  ⟨K.1, K.2.1, fun p e s m args below meth c C ht H locs k n ls hp hl hk hn hv => by
    have hts := C.2.2.2.2.2.1
    have hE := C.2.2.2.2.2.2.2.2.1
    exact va_getC C.1 C.2.1 (by rw [hv.1, C.2.2.2.1]) C.2.2.2.2.1 (hts _ hw) (va_Dc.use hE.2.2.2.2.2.2.2.2.2.2.2.1) (hts _ hw2) (hts _ hw3) (hts _ hw4) hE.2.2.2.2.2.2.2.2.2.2.2.2.1 (k_qrecv hE hp ho) hd (by rw [k_catR]; show _ ≤ 40 * d; omega) hdg (K.2.2 p e s m args below meth c C ht H locs k n ls hp hl hk hn hv)⟩
theorem j_copy {idx a b n0 n1 : Nat} {f g : Nat → Option Nat} {sp dp n9 : Int32} (hdg : decode cc pc = .ok (.invokestatic idx, 3)) (hw : Cond.methodLink y.cls idx arraycopyName ∈ k_tbl) (hw2 : Cond.native arraycopyName ∈ k_tbl) (hw3 : Cond.static arraycopyName ∈ k_tbl) (hw4 : Cond.initialized "java/lang/System" ∈ k_tbl) (ho : h.1 a = some (k_q n0 f)) (ho2 : h.1 b = some (k_q n1 g))
    (h1 : ¬ sp < 0) (h2 : ¬ dp < 0) (h3 : ¬ n9 < 0) (h4 : sp.toNatClampNeg + n9.toNatClampNeg ≤ n0) (h5 : dp.toNatClampNeg + n9.toNatClampNeg ≤ n1) (hel : ∀ i : Nat, i < n9.toNatClampNeg → ∀ z : Nat, f (sp.toNatClampNeg + i) = some z → ∃ ci, k_is h z ci ∧ k_toObj ci) (hd : 10 ≤ d) (hst : (st.map k_cat).sum ≤ 8)
    (K : k_J G l y cc mL rt d h0 (k_up h b (k_q n1 (va_cpy f g sp.toNatClampNeg dp.toNatClampNeg n9.toNatClampNeg))) (pc + 3) lv st h' r) : k_J G l y cc mL rt d h0 h pc lv (vI n9 :: vI dp :: vR (some b) :: vI sp :: vR (some a) :: st) h' r := by
  refine ⟨K.1, K.2.1, fun p e s m args below meth c C ht H locs k n ls hp hl hk hn hv => ?_⟩
  have hts := C.2.2.2.2.2.1
  have hE := C.2.2.2.2.2.2.2.2.1
  have hKs := hE.K
  have nn : ∀ z : Int32, ¬ z < 0 → z.toInt = (z.toNatClampNeg : Int) := by
    intro z hz
    have hz0 : (0 : Int) ≤ z.toInt := by
      have := Int32.not_lt.mp hz
      simpa using Int32.le_iff_toInt_le.mp this
    show z.toInt = ((z.toInt.toNat : Nat) : Int)
    omega
  intro T hT X
  have hc0 : H[a]? = some (vp_cell (k_cQ G) (n0, .inr (.inr (.inr (.inr f))))) := k_hp_q hp ho
  have hc1 : H[b]? = some (vp_cell (k_cQ G) (n1, .inr (.inr (.inr (.inr g))))) := k_hp_q hp ho2
  obtain ⟨-, k0, hk0, cm0, hkk0⟩ := (hKs.2 3 _ rfl).1 n0 (fun j => va_rf (f j))
  obtain ⟨-, k1, hk1, cm1, hkk1⟩ := (hKs.2 3 _ rfl).1 n1 (fun j => va_rf (g j))
  obtain ⟨vm', X', step⟩ := X.arraycopy C.1 C.2.2.2.2.1 (hts _ hw) (hts _ hw2) (hts _ hw3) (hts _ hw4) (src := a) (dst := b) (cs := vp_cell (k_cQ G) (n0, .inr (.inr (.inr (.inr f))))) (cd := vp_cell (k_cQ G) (n1, .inr (.inr (.inr (.inr g))))) (srcPos := sp) (destPos := dp) (n := n9) (by rw [hT]; exact hc0) (by rw [hT]; exact hc1)
    (fun _ h => by cases h) (fun _ h => by cases h) (fun h => by cases h) (fun h => by cases h) hk0 hk1 hkk0 hkk1 rfl h1 h2 h3
    (by rw [nn sp h1, nn n9 h3]; show ¬ _ > ((arrV _ n0 (fun j => va_rf (f j))).slots.size : Int); rw [arrV_size]; omega)
    (by rw [nn dp h2, nn n9 h3]; show ¬ _ > ((arrV _ n1 (fun j => va_rf (g j))).slots.size : Int); rw [arrV_size]; omega)
    (fun vm₁ hal i hi => by
      have e : (vp_cell (k_cQ G) (n0, .inr (.inr (.inr (.inr f))))).slots.getD (sp.toNatClampNeg + i) .null = va_rf (f (sp.toNatClampNeg + i)) := by
        show (arrV _ n0 (fun j => va_rf (f j))).slots.getD _ _ = _
        rw [Array.getD_eq_getD_getElem?, arrV_read _ _ (by omega)]
        rfl
      rw [e]
      cases hy : f (sp.toNatClampNeg + i) with
      | none => exact ⟨rfl, trivial⟩
      | some y9 =>
        obtain ⟨ci, w1, w2⟩ := hel i hi y9 hy
        obtain ⟨cellV, g1, g2, ⟨kC, hkC⟩, hasg⟩ := k_any hE hp w1 w2
        obtain ⟨kA, comp, r1, r2, r3, -⟩ := (hKs.2 3 _ rfl).2
        cases hk1.symm.trans r1
        cases hkk1.symm.trans r2
        obtain ⟨kE, hkE, -⟩ := Vm.findClass_spec r3
        obtain ⟨kC', hkC', -⟩ := hal.2.2 _ _ hkC
        obtain ⟨kE', hkE', -⟩ := hal.2.2 _ _ hkE
        refine ⟨rfl, cellV, (show T.heap[y9]? = some cellV by rw [hT]; exact g1), (fun q h => by rw [h] at g2; cases g2), ⟨kC', hkC'⟩, ?_, ?_⟩
        · exact ⟨kE', hkE'⟩
        · show vm₁.assignable _ _ = true
          rw [hal.assignable]
          exact hasg _ r3)
    (g := F0 m pc ls (.int n9 :: .int dp :: .ref b :: .int sp :: .ref a :: st.map k_v)) rfl (by rw [C.2.2.2.1]; exact hv.1) (rest := st.map k_v) rfl (by rw [C.2.1]; exact hdg) (by show 1 ≤ d; omega) (by show 2 * 0 + ((st.map k_v).map fun v => v.category).sum + (nativeFrameWords "java/lang/System" "arraycopy" 5 + 11) ≤ 40 * d; rw [k_catR]; have hw : nativeFrameWords "java/lang/System" "arraycopy" 5 ≤ 50 := (by decide); omega)
  have e1 : copied (vp_cell (k_cQ G) (n0, .inr (.inr (.inr (.inr f))))) (vp_cell (k_cQ G) (n1, .inr (.inr (.inr (.inr g))))) sp dp n9 = vp_cell (k_cQ G) (n1, .inr (.inr (.inr (.inr (va_cpy f g sp.toNatClampNeg dp.toNatClampNeg n9.toNatClampNeg))))) := by
    rw [vp_cell_q, vp_cell_q, vp_cell_q]
    exact va_copied (fun z => va_rf z) _ _ f g h4
  rw [e1] at X' step
  have hl9 : b < H.size := (Array.getElem?_eq_some_iff.mp hc1).1
  have hheap : ((T.setVm vm').setCell b (vp_cell (k_cQ G) (n1, .inr (.inr (.inr (.inr (va_cpy f g sp.toNatClampNeg dp.toNatClampNeg n9.toNatClampNeg))))))).heap = H.setIfInBounds b (vp_cell (k_cQ G) (n1, .inr (.inr (.inr (.inr (va_cpy f g sp.toNatClampNeg dp.toNatClampNeg n9.toNatClampNeg)))))) := by rw [← hT]; rfl
  have oq : ∀ q : Nat, q ≠ b → (H.setIfInBounds b (vp_cell (k_cQ G) (n1, .inr (.inr (.inr (.inr (va_cpy f g sp.toNatClampNeg dp.toNatClampNeg n9.toNatClampNeg)))))))[q]? = H[q]? := fun q hq => by simp [Array.getElem?_setIfInBounds, Ne.symm hq]
  have fin := k_hp_set hp ho2 (c := k_q n1 (va_cpy f g sp.toNatClampNeg dp.toNatClampNeg n9.toNatClampNeg)) (fun _ _ h => by cases h) (show (H.setIfInBounds b (vp_cell (k_cQ G) (n1, .inr (.inr (.inr (.inr (va_cpy f g sp.toNatClampNeg dp.toNatClampNeg n9.toNatClampNeg))))))).size = H.size by simp) oq (e := .inl (k_cQ G, n1, .inr (.inr (.inr (.inr (va_cpy f g sp.toNatClampNeg dp.toNatClampNeg n9.toNatClampNeg)))))) (show (H.setIfInBounds b _)[b]? = some _ by simp [Array.getElem?_setIfInBounds, hl9]) (fun _ _ _ h => h)
  obtain ⟨t, a1, b1⟩ := K.2.2 p e s m args below meth c C ht _ _ k n ls fin (fun q hq => by
      rcases List.mem_append.mp hq with z | z
      · exact hl q z
      · obtain ⟨z9, -, hz⟩ := List.mem_map.mp z
        rw [← hz]
        exact k_hp_gq hp ho2) hk hn hv _ hheap X'
  exact ⟨t, step t a1, b1⟩
/-- the world may be seen otherwise -/
theorem k_Jopen (R : k_H → Prop) (hle : h.2.1 ≤ h'.2.1 ∧ h.2.2 ≤ h'.2.2) (ho : ∀ H, k_hp G h H → ∃ h1, R h1 ∧ h1.2 = h.2 ∧ k_hp G h1 H) (K : ∀ h1, R h1 → h1.2 = h.2 → k_J G l y cc mL rt d h0 h1 pc lv st h' r) : k_J G l y cc mL rt d h0 h pc lv st h' r :=
  ⟨hle.1, hle.2, fun p e s m args below meth c C ht H locs k n ls hp hl hk hn hv => by
    obtain ⟨h1, r1, e1, p1⟩ := ho H hp
    exact (K h1 r1 e1).2.2 p e s m args below meth c C ht H locs k n ls p1 hl (by rw [e1]; exact hk) (by rw [e1]; exact hn) hv⟩
theorem k_Wmono {p : Program} {e : Env} {R : Room} {s : State} {m : MethodId} {args : Array Value} {below : List Frame} {meth : Method} {c : Code} {H : Heap} {locs : List Loc} {k n : Nat} {Q Q' : State → Prop} {g : JFrame} (hq : ∀ t, Q t → Q' t) (w : W p l e R s m args below meth c H locs k n Q g) : W p l e R s m args below meth c H locs k n Q' g := fun T hT X => by
  obtain ⟨t, a, b⟩ := w T hT X
  exact ⟨t, a, hq t b⟩
theorem k_Jres {h2 : k_H} (K : k_J G l y cc mL rt d h0 h pc lv st h2 r) (he : h2.2 = h'.2) (hc : ∀ H, k_hp G h2 H → k_hp G h' H) : k_J G l y cc mL rt d h0 h pc lv st h' r := by
  obtain ⟨k1, k2, k3⟩ := K
  have erm : k_rm d h0 h' = k_rm d h0 h2 := by unfold k_rm; rw [he]
  refine ⟨by rw [← he]; exact k1, by rw [← he]; exact k2, fun p e s m args below meth c C ht H locs k n ls hp hl hk hn hv => ?_⟩
  rw [erm, ← he]
  refine k_Wmono (fun t ht9 => ?_) (k3 p e s m args below meth c C ht H locs k n ls hp hl hk hn hv)
  obtain ⟨o, b1, b2, b3⟩ := ht9
  refine ⟨o, b1, b2, ?_⟩
  rcases b3 with ⟨⟨v, e1, e2, e3⟩, b4⟩ | ⟨q, e1, E, ce, L, ⟨e2, e3⟩, b4⟩
  · exact Or.inl ⟨⟨v, e1, e2, hc _ e3⟩, b4⟩
  · exact Or.inr ⟨q, e1, E, ce, L, ⟨e2, hc _ e3⟩, b4⟩
/-- fewer cells are a world, too -/
theorem k_drop {h2 : k_H} {H : Heap} (hp : k_hp G h H) (he : h2.2 = h.2) (hs : ∀ q c, h2.1 q = some c → h.1 q = some c) : k_hp G h2 H := by
  obtain ⟨p1, p2, p3, F, ow, h1, h3⟩ := hp
  refine ⟨by rw [he]; exact p1, p2, p3, F, ow, h1, fun a c hc => ?_⟩
  have := h3 _ _ (hs _ _ hc)
  rcases c with ⟨ci, fs⟩ | ⟨n, f⟩ | ⟨n, f⟩ | ⟨n, f⟩ | ⟨xs, cap⟩ | ⟨n, f⟩
  rotate_right
  · exact this
  · exact this
  · exact this
  · exact this
  · exact this
  · obtain ⟨md, t, g1, g2, g3, g4⟩ := this
    refine ⟨md, t, g1, g2, g3, ?_⟩
    rcases g4 with ⟨g5, g6⟩ | ⟨g5, g6, g7⟩
    · exact Or.inl ⟨g5, g6⟩
    · refine Or.inr ⟨g5, ?_, g7⟩
      cases hz : h2.1 t with
      | none => rfl
      | some c => rw [hs _ _ hz] at g6; cases g6
end KR2
/-- a list seen raw: its object and its row -/
def k_raw (h : k_H) (a : Nat) (xs : List Nat) (cap : Nat) (z0 : Nat) (h1 : k_H) : Prop := ∃ (md : Int32) (t : Nat), h1.1 a = some (k_o 2 [vI md, vR (some t), vI (nI xs.length)]) ∧ xs.length ≤ cap ∧ cap < 2 ^ 30 ∧ t ≠ a ∧
  ((cap = 0 ∧ t = z0 ∧ ∀ q, q ≠ a → h1.1 q = h.1 q) ∨ (0 < cap ∧ t ≠ z0 ∧ h.1 t = none ∧ ∃ f : Nat → Option Nat, h1.1 t = some (k_q cap f) ∧ (∀ i : Nat, i < xs.length → f i = xs[i]?) ∧ ∀ q, q ≠ a → q ≠ t → h1.1 q = h.1 q))
theorem k_open {G : k_G} {h : k_H} {H : Heap} (hz : k_z0 G < (k_H0 G).size) (hp : k_hp G h H) {a cap : Nat} {xs : List Nat} (ho : h.1 a = some (k_l xs cap)) : ∃ h1, k_raw h a xs cap (k_z0 G) h1 ∧ h1.2 = h.2 ∧ k_hp G h1 H := by
  obtain ⟨p1, p2, p3, F, ow, h1, h3⟩ := hp
  obtain ⟨md, t, g1, g2, g3, g4⟩ := h3 _ _ ho
  have ha := (h1 _ _ g1).1.1
  rcases g4 with ⟨g5, g6⟩ | ⟨g5, g6, g7, f, g8, g9⟩
  · refine ⟨k_up h a (k_o 2 [vI md, vR (some t), vI (nI xs.length)]), ⟨md, t, k_up_self _ _ _, g2, g3, by omega, Or.inl ⟨g5, g6, fun q hq => k_up_ne _ _ hq⟩⟩, rfl, p1, p2, p3, F, ow, h1, fun q c hc => ?_⟩
    by_cases hqa : q = a
    · subst hqa
      rw [k_up_self] at hc
      cases hc
      exact g1
    · rw [k_up_ne _ _ hqa] at hc
      have := h3 _ _ hc
      rcases c with ⟨ci, fs⟩ | ⟨n, f⟩ | ⟨n, f⟩ | ⟨n, f⟩ | ⟨xs, cap⟩ | ⟨n, f⟩
      rotate_right
      · exact this
      · exact this
      · exact this
      · exact this
      · exact this
      · obtain ⟨md', t', e1, e2, e3, e4⟩ := this
        refine ⟨md', t', e1, e2, e3, ?_⟩
        rcases e4 with e5 | ⟨e5, e6, e7⟩
        · exact Or.inl e5
        · exact Or.inr ⟨e5, by rw [k_up_ne _ _ (fun z => by subst z; rw [ho] at e6; cases e6)]; exact e6, e7⟩
  · have hta : t ≠ a := fun z => by subst z; rw [ho] at g6; cases g6
    have htb := (h1 _ _ g8).1.1
    refine ⟨k_up (k_up h t (k_q cap f)) a (k_o 2 [vI md, vR (some t), vI (nI xs.length)]), ⟨md, t, k_up_self _ _ _, g2, g3, hta, Or.inr ⟨g5, by omega, g6, f, by rw [k_up_ne _ _ hta, k_up_self], g9, fun q hq hq2 => by rw [k_up_ne _ _ hq, k_up_ne _ _ hq2]⟩⟩, rfl, p1, p2, p3, F, ow, h1, fun q c hc => ?_⟩
    by_cases hqa : q = a
    · subst hqa
      rw [k_up_self] at hc
      cases hc
      exact g1
    · rw [k_up_ne _ _ hqa] at hc
      by_cases hqt : q = t
      · subst hqt
        rw [k_up_self] at hc
        cases hc
        exact g8
      · rw [k_up_ne _ _ hqt] at hc
        have := h3 _ _ hc
        rcases c with ⟨ci, fs⟩ | ⟨n, f⟩ | ⟨n, f⟩ | ⟨n, f⟩ | ⟨xs, cap⟩ | ⟨n, f⟩
        rotate_right
        · exact this
        · exact this
        · exact this
        · exact this
        · exact this
        · obtain ⟨md', t', e1, e2, e3, e4⟩ := this
          refine ⟨md', t', e1, e2, e3, ?_⟩
          rcases e4 with e5 | ⟨e5, e6, e7, e8⟩
          · exact Or.inl e5
          · exact Or.inr ⟨e5, by rw [k_up_ne _ _ (fun z => by subst z; rw [ho] at e6; cases e6), k_up_ne _ _ (fun z => by subst z; exact hqa (e7.symm.trans g7))]; exact e6, e7, e8⟩
/-- .. and closed again -/
theorem k_close {G : k_G} {h h1 h2 : k_H} {H : Heap} (hp : k_hp G h1 H) {a cap t : Nat} {md : Int32} {xs : List Nat} (e1 : h1.1 a = some (k_o 2 [vI md, vR (some t), vI (nI xs.length)])) (hx : xs.length ≤ cap) (hcap : cap < 2 ^ 30)
    (ht : (cap = 0 ∧ t = k_z0 G) ∨ (0 < cap ∧ t ≠ a ∧ h2.1 t = none ∧ ∃ f : Nat → Option Nat, h1.1 t = some (k_q cap f) ∧ ∀ i : Nat, i < xs.length → f i = xs[i]?))
    (e2 : h2.2 = h1.2) (e3 : h2.1 a = some (k_l xs cap)) (e4 : ∀ q c, q ≠ a → h2.1 q = some c → h1.1 q = some c) : k_hp G h2 H := by
  obtain ⟨p1, p2, p3, F, ow, g1, g3⟩ := hp
  refine ⟨by rw [e2]; exact p1, p2, p3, F, fun z => if 0 < cap ∧ z = t then a else ow z, g1, fun q c hc => ?_⟩
  have ga := g3 _ _ e1
  by_cases hqa : q = a
  · subst hqa
    rw [e3] at hc
    cases hc
    refine ⟨md, t, ga, hx, hcap, ?_⟩
    rcases ht with h9 | ⟨h9, h10, h11, f, h12, h13⟩
    · exact Or.inl h9
    · exact Or.inr ⟨h9, h11, by simp [h9], f, g3 _ _ h12, h13⟩
  · have hc1 := e4 q c hqa hc
    have := g3 _ _ hc1
    rcases c with ⟨ci, fs⟩ | ⟨n, f⟩ | ⟨n, f⟩ | ⟨n, f⟩ | ⟨xs', cap'⟩ | ⟨n, f⟩
    rotate_right
    · exact this
    · exact this
    · exact this
    · exact this
    · exact this
    · obtain ⟨md', t', f1, f2, f3, f4⟩ := this
      refine ⟨md', t', f1, f2, f3, ?_⟩
      rcases f4 with f5 | ⟨f5, f6, f7, f8⟩
      · exact Or.inl f5
      · refine Or.inr ⟨f5, ?_, ?_, f8⟩
        · cases hz : h2.1 t' with
          | none => rfl
          | some c9 =>
            by_cases hta : t' = a
            · subst hta; rw [e1] at f6; cases f6
            · rw [e4 _ _ hta hz] at f6; cases f6
        · have hne : ¬ (0 < cap ∧ t' = t) := by
            rintro ⟨z1, z2⟩
            rcases ht with h9 | ⟨h9, h10, h11, f, h12, h13⟩
            · omega
            · subst z2; rw [h12] at f6; cases f6
          show (if 0 < cap ∧ t' = t then a else ow t') = q
          rw [if_neg hne]
          exact f7
end
