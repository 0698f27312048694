/-! ROWS THAT READ AND WRITE CELLS -/
/-- place idx of class own names field k of class ci -/
def k_fld (own : String) (idx ci k : Nat) : Prop := ∃ (C : String) (T : u_T) (N : Nat), vwCl[ci]? = some (C, T, N) ∧ k < N ∧ (∀ w ∈ u_ws C T N, w ∈ k_tbl) ∧ Cond.fieldLink own idx (T k).1 (T k).2.1 (T k).2.2.1 ∈ k_tbl
/-- .. and its type, and that it is final or not -/
def k_fldP (own : String) (idx ci k : Nat) (ty : FieldType) (fin : Bool) : Prop := ∃ (C : String) (T : u_T) (N : Nat) (ty0 : Nat → FieldType), vwCl[ci]? = some (C, T, N) ∧ k < N ∧ (∀ w ∈ u_ws C T N, w ∈ k_tbl) ∧ Cond.fieldLink own idx (T k).1 (T k).2.1 (T k).2.2.1 ∈ k_tbl ∧
  (∀ k, k < N → parseFieldDescriptor (T k).2.2.1 = some (ty0 k)) ∧ (∀ a, a < N → ∀ b, b < N → a ≠ b → (T a).2.1 ≠ (T b).2.1) ∧ (T k).2.2.2 = fin ∧ parseFieldDescriptor (T k).2.2.1 = some ty ∧ (fin = true → (T k).1 = own)
/-- a value that a field or a row of that type takes as it is -/
def k_fit (ty : FieldType) (v : k_V) : Prop := narrow ty (k_v v) = k_v v ∧ fits ty (k_v v) = true
theorem k_fit_i (x : Int32) : k_fit .int (vI x) := ⟨rfl, rfl⟩
theorem k_fit_j (x : Int64) : k_fit .long (vJ x) := ⟨rfl, rfl⟩
theorem k_fit_z {x : Int32} (h : k_bl x) : k_fit .boolean (vI x) := by rcases h with rfl | rfl <;> exact ⟨rfl, rfl⟩
theorem k_fit_r (C : String) (x : Option Nat) : k_fit (.object C) (vR x) := by cases x <;> exact ⟨rfl, rfl⟩
theorem k_fit_a (t : FieldType) (x : Option Nat) : k_fit (.array t) (vR x) := by cases x <;> exact ⟨rfl, rfl⟩
/-- making objects of class ci by place idx of own: their fields at first -/
def k_cls (own : String) (idx ci N : Nat) (fs : List k_V) : Prop := ∃ (C : String) (T : u_T) (ty : Nat → FieldType), vwCl[ci]? = some (C, T, N) ∧ (∀ w ∈ u_ws C T N, w ∈ k_tbl) ∧ (∀ k, k < N → parseFieldDescriptor (T k).2.2.1 = some (ty k)) ∧ Cond.classLink own idx C ∈ k_tbl ∧ Cond.instantiable C N ∈ k_tbl ∧ Cond.initialized C ∈ k_tbl ∧ (∀ j, j < N → defaultValue (ty j) = vp_V (fs.map k_v) j)
theorem k_hp_cell {G : k_G} {h : k_H} {H : Heap} (hp : k_hp G h H) {a : Nat} {ci : Nat} {fs : List k_V} (ho : h.1 a = some (k_o ci fs)) : va_at (k_D G) vwCl (a, .inr (ci, fs.map k_v)) H := by
  obtain ⟨-, -, -, F, ow, h1, h2⟩ := hp
  exact (h1 _ _ (h2 _ _ ho)).2
theorem k_hp_i {G : k_G} {h : k_H} {H : Heap} (hp : k_hp G h H) {a n : Nat} {f : Nat → Int32} (ho : h.1 a = some (k_i n f)) : va_at (k_D G) vwCl (a, .inl (k_cI G, n, .inl f)) H := by
  obtain ⟨-, -, -, F, ow, h1, h2⟩ := hp
  exact (h1 _ _ (h2 _ _ ho)).2
theorem k_hp_j {G : k_G} {h : k_H} {H : Heap} (hp : k_hp G h H) {a n : Nat} {f : Nat → Int64} (ho : h.1 a = some (k_j n f)) : va_at (k_D G) vwCl (a, .inl (k_cJ G, n, .inr (.inl f))) H := by
  obtain ⟨-, -, -, F, ow, h1, h2⟩ := hp
  exact (h1 _ _ (h2 _ _ ho)).2
theorem k_hp_z {G : k_G} {h : k_H} {H : Heap} (hp : k_hp G h H) {a n : Nat} {f : Nat → Int32} (ho : h.1 a = some (k_z n f)) : va_at (k_D G) vwCl (a, .inl (k_cZ G, n, .inl f)) H := by
  obtain ⟨-, -, -, F, ow, h1, h2⟩ := hp
  exact (h1 _ _ (h2 _ _ ho)).2
theorem k_hp_l {G : k_G} {h : k_H} {H : Heap} (hp : k_hp G h H) {a cap : Nat} {xs : List Nat} (ho : h.1 a = some (k_l xs cap)) : ∃ (md : Int32) (t : Nat), va_at (k_D G) vwCl (a, .inr (2, [.int md, .ref t, .int (nI xs.length)])) H := by
  obtain ⟨-, -, -, F, ow, h1, h2⟩ := hp
  obtain ⟨md, t, h3, -⟩ := h2 _ _ ho
  exact ⟨md, t, (h1 _ _ h3).2⟩
/-- a cell that is no list's changes: the world behind it -/
theorem k_hp_set {G : k_G} {h : k_H} {H H1 : Heap} (hp : k_hp G h H) {a : Nat} {c0 c : k_C} {e : va_E} (ho : h.1 a = some c0) (hn0 : ∀ xs cap, c0 ≠ k_l xs cap) (hz : H1.size = H.size) (hq : ∀ q : Nat, q ≠ a → H1[q]? = H[q]?) (hat : va_at (k_D G) vwCl (a, e) H1)
    (hden : ∀ (m : Nat → Option k_C) (F : Nat → Option va_E) (ow : Nat → Nat), F a = some e → k_den G m F ow a c) : k_hp G (k_up h a c) H1 := by
  obtain ⟨p1, p2, p3, F, ow, h1, h2⟩ := hp
  have hFa : ∃ e0, F a = some e0 := by
    have := h2 _ _ ho
    rcases c0 with ⟨ci, fs⟩ | ⟨n, f⟩ | ⟨n, f⟩ | ⟨n, f⟩ | ⟨xs, cap⟩ | ⟨n, f⟩
    · exact ⟨_, this⟩
    · exact ⟨_, this⟩
    · exact ⟨_, this⟩
    · exact ⟨_, this⟩
    · exact absurd rfl (hn0 xs cap)
    · exact ⟨_, this⟩
  obtain ⟨e0, hFa⟩ := hFa
  have ha := (h1 _ _ hFa).1
  have ha0 := ha.1
  refine ⟨by rw [hz]; exact p1, by rw [hz]; exact p2, fun q hq1 => by rw [hq q (by omega)]; exact p3 q hq1, fun q => if q = a then some e else F q, ow, fun q e1 he => ?_, fun q c1 hc => ?_⟩
  · by_cases hqa : q = a
    · subst hqa
      simp at he
      subst he
      exact ⟨ha, hat⟩
    · simp only [hqa, if_false] at he
      obtain ⟨k1, k2⟩ := h1 _ _ he
      exact ⟨k1, k2.kept (hq q hqa)⟩
  · by_cases hqa : q = a
    · subst hqa
      rw [k_up_self] at hc
      cases hc
      exact hden _ _ _ (by simp)
    · rw [k_up_ne _ _ hqa] at hc
      have h3 := h2 _ _ hc
      have keepF : ∀ z, z ≠ a → (if z = a then some e else F z) = F z := fun z hz => if_neg hz
      rcases c1 with ⟨ci, fs⟩ | ⟨n, f⟩ | ⟨n, f⟩ | ⟨n, f⟩ | ⟨xs, cap⟩ | ⟨n, f⟩
      rotate_right
      · exact (keepF q hqa).trans h3
      · exact (keepF q hqa).trans h3
      · exact (keepF q hqa).trans h3
      · exact (keepF q hqa).trans h3
      · exact (keepF q hqa).trans h3
      · obtain ⟨md, t, g1, g2, g3, g4⟩ := h3
        refine ⟨md, t, (keepF q hqa).trans g1, g2, g3, ?_⟩
        rcases g4 with ⟨g5, g6⟩ | ⟨g5, g6, g7, f, g8, g9⟩
        · exact Or.inl ⟨g5, g6⟩
        · have hta : t ≠ a := fun z => by subst z; rw [ho] at g6; cases g6
          exact Or.inr ⟨g5, by rw [k_up_ne _ _ hta]; exact g6, g7, f, (keepF t hta).trans g8, g9⟩
/-- a cell is made -/
theorem k_hp_new {G : k_G} {h : k_H} {H H1 : Heap} (hp : k_hp G h H) {n : Nat} {c : k_C} {e : va_E} (hz : H1.size = H.size + 1) (hq : ∀ q : Nat, q < H.size → H1[q]? = H[q]?) (hat : va_at (k_D G) vwCl (H.size, e) H1)
    (hden : ∀ (m : Nat → Option k_C) (F : Nat → Option va_E) (ow : Nat → Nat), F H.size = some e → k_den G m F ow H.size c) : k_hp G (k_nw h n c) H1 := by
  obtain ⟨p1, p2, p3, F, ow, h1, h2⟩ := hp
  have hlt : ∀ q e1, F q = some e1 → q < H.size := fun q e1 he => (h1 _ _ he).2.lt
  have hmlt : ∀ q c1, h.1 q = some c1 → q < H.size := fun q c1 hc => by
    have h3 := h2 _ _ hc
    rcases c1 with ⟨ci, fs⟩ | ⟨n, f⟩ | ⟨n, f⟩ | ⟨n, f⟩ | ⟨xs, cap⟩ | ⟨n, f⟩
    rotate_right
    · exact hlt _ _ h3
    · exact hlt _ _ h3
    · exact hlt _ _ h3
    · exact hlt _ _ h3
    · exact hlt _ _ h3
    · obtain ⟨md, t, g1, -⟩ := h3
      exact hlt _ _ g1
  have p20 := p2.1
  have p21 := p2.2
  refine ⟨by rw [hz, p1]; rfl, ⟨by omega, by omega⟩, fun q hq1 => by rw [hq q (by omega)]; exact p3 q hq1, fun q => if q = H.size then some e else F q, ow, fun q e1 he => ?_, fun q c1 hc => ?_⟩
  · by_cases hqa : q = H.size
    · subst hqa
      simp at he
      subst he
      exact ⟨⟨p2.1, Or.inr p2.2⟩, hat⟩
    · simp only [hqa, if_false] at he
      obtain ⟨k1, k2⟩ := h1 _ _ he
      exact ⟨k1, k2.kept (hq q (hlt _ _ he))⟩
  · by_cases hqa : q = H.size
    · subst hqa
      have hc' : (k_nw h n c).1 h.2.1 = some c1 := by rw [← p1]; exact hc
      rw [k_nw_self] at hc'
      cases hc'
      exact hden _ _ _ (by simp)
    · have hc' : h.1 q = some c1 := by rw [← k_nw_ne h n c (b := q) (by rw [← p1]; exact hqa)]; exact hc
      have h3 := h2 _ _ hc'
      have keepF : ∀ z, z ≠ H.size → (if z = H.size then some e else F z) = F z := fun z hz => if_neg hz
      rcases c1 with ⟨ci, fs⟩ | ⟨n, f⟩ | ⟨n, f⟩ | ⟨n, f⟩ | ⟨xs, cap⟩ | ⟨n, f⟩
      rotate_right
      · exact (keepF q hqa).trans h3
      · exact (keepF q hqa).trans h3
      · exact (keepF q hqa).trans h3
      · exact (keepF q hqa).trans h3
      · exact (keepF q hqa).trans h3
      · obtain ⟨md, t, g1, g2, g3, g4⟩ := h3
        refine ⟨md, t, (keepF q hqa).trans g1, g2, g3, ?_⟩
        rcases g4 with ⟨g5, g6⟩ | ⟨g5, g6, g7, f, g8, g9⟩
        · exact Or.inl ⟨g5, g6⟩
        · have hta : t ≠ H.size := Nat.ne_of_lt (hlt _ _ g8)
          exact Or.inr ⟨g5, by rw [k_nw_ne _ _ _ (by rw [← p1]; exact hta)]; exact g6, g7, f, (keepF t hta).trans g8, g9⟩
section KJH
variable {G : k_G} {l : Launch} {y : MethodName} {cc : ByteArray} {mL : Nat} {rt : Option FieldType} {d : Nat} {h0 h h' : k_H} {pc : Nat} {lv : k_L} {st : List k_V} {r : k_R}
theorem k_mv {fs : List k_V} {k : Nat} {v : k_V} (h : fs[k]? = some v) : (fs.map k_v)[k]? = some (k_v v) := by rw [List.getElem?_map, h]; rfl
theorem j_getf {a idx ci k : Nat} {fs : List k_V} {v : k_V} (hdg : decode cc pc = .ok (.getfield idx, 3)) (hf : k_fld y.cls idx ci k) (ho : h.1 a = some (k_o ci fs)) (hv9 : fs[k]? = some v) (K : k_J G l y cc mL rt d h0 h (pc + 3) lv (v :: st) h' r) : k_J G l y cc mL rt d h0 h pc lv (vR (some a) :: st) h' r := by
  obtain ⟨C9, T, N, f1, f2, f3, f4⟩ := hf
  exact ⟨K.1, K.2.1, fun p e s m args below meth c C ht H locs k n ls hp hl hk hn hv => va_get (Ts := k_tbl) C.1 C.2.1 C.2.2.2.2.2.1 f3 C.2.2.2.2.1 C.2.2.2.2.2.2.2.2.1.K (k_P1 (k_hp_cell hp ho)) 0 rfl f1 _ f2 (C.2.2.2.2.2.1 _ f4) (fun _ h9 => h9) (k_mv hv9) hdg (K.2.2 p e s m args below meth c C ht H locs k n ls hp hl hk hn hv)⟩
theorem k_locs {locs : List Loc} {P : Nat → Prop} {a i : Nat} (h : ∀ q ∈ locs, P q.base) (ha : P a) : ∀ q ∈ locs ++ [⟨a, i⟩], P q.base := fun q hq => by
  rcases List.mem_append.mp hq with e | e
  · exact h q e
  · simp at e; subst e; exact ha
theorem k_hp_ge {G : k_G} {h : k_H} {H : Heap} (hp : k_hp G h H) {a : Nat} {ci : Nat} {fs : List k_V} (ho : h.1 a = some (k_o ci fs)) : k_we G a := by
  obtain ⟨-, -, -, F, ow, h1, h2⟩ := hp
  exact (h1 _ _ (h2 _ _ ho)).1
theorem j_putf {a idx ci k : Nat} {fs fs9 : List k_V} {v : k_V} {ty : FieldType} (hdg : decode cc pc = .ok (.putfield idx, 3)) (hf : k_fldP y.cls idx ci k ty false) (ho : h.1 a = some (k_o ci fs)) (hl9 : k < fs.length) (hv9 : k_fit ty v) (hs9 : fs.set k v = fs9) (K : k_J G l y cc mL rt d h0 (k_up h a (k_o ci fs9)) (pc + 3) lv st h' r) : k_J G l y cc mL rt d h0 h pc lv (v :: vR (some a) :: st) h' r := by
  subst hs9
  obtain ⟨C9, T, N, ty0, f1, f2, f3, f4, f5, f6, f7, f8, f9⟩ := hf
  refine ⟨K.1, K.2.1, fun p e s m args below meth c C ht H locs k9 n ls hp hl hk hn hv => ?_⟩
  have hts := C.2.2.2.2.2.1
  have hKs := C.2.2.2.2.2.2.2.2.1.K
  have hap := va_apart (own := y.cls) hts f3 ty0 f5 f6 hKs f1
  obtain ⟨r9, h1, cell, q1, q2, q3, q4⟩ := k_hp_cell hp ho
  have hr : r9 = (C9, T, N) := Option.some.inj (h1.symm.trans f1)
  subst hr
  obtain ⟨hS, hfc, kC, hkC, hkind⟩ := hKs.1 ci _ f1
  obtain ⟨cf, kf, fi, f, hi, hsl⟩ := hS k f2
  have hlay := hts _ (f3 _ (u_in_lay f2))
  unfold u_lay at hlay
  rw [if_neg (by rw [f7]; decide)] at hlay
  have hst := (u_facts hfc hkC (u_lays hts f3 f2) hi).1
  have h6 := u_store hfc hkC hkind hlay hi f8 hv9.1 hv9.2
  refine W.putK C.1 C.2.1 (f := f) ⟨C.2.2.2.2.1, hts _ f4, ⟨_, _, _, hi⟩, hst⟩ (by rw [q2]; exact h6) q1 q3 (by rw [hsl]; exact k2_hasslot (q4 k f2)) rfl rfl hdg fun H' e1 e2 e3 => ?_
  rw [hsl] at e1 ⊢
  refine K.2.2 p e s m args below meth c C ht H' _ k9 n ls (k_hp_set hp ho (fun _ _ h => by cases h) e2 e3 (e := .inr (ci, (fs.set k v).map k_v)) ⟨_, f1, ?_⟩ (fun _ _ _ h => h)) (k_locs hl (k_hp_ge hp ho)) hk hn hv
  rw [List.map_set]
  exact t_OB.to (V := updV (vp_V (fs.map k_v)) k (k_v v)) ⟨_, e1, q2, q3, t_set q4 hap f2 (k_v v)⟩ (fun j _ => vp_updV_set (by rw [List.length_map]; exact hl9) (k_v v) j)
theorem j_putF {a idx ci k : Nat} {fs fs9 : List k_V} {v : k_V} {ty : FieldType} (hdg : decode cc pc = .ok (.putfield idx, 3)) (hinit : y.name = "<init>") (hf : k_fldP y.cls idx ci k ty true) (ho : h.1 a = some (k_o ci fs)) (hl9 : k < fs.length) (hv9 : k_fit ty v) (hs9 : fs.set k v = fs9) (K : k_J G l y cc mL rt d h0 (k_up h a (k_o ci fs9)) (pc + 3) lv st h' r) : k_J G l y cc mL rt d h0 h pc lv (v :: vR (some a) :: st) h' r := by
  subst hs9
  obtain ⟨C9, T, N, ty0, f1, f2, f3, f4, f5, f6, f7, f8, f9⟩ := hf
  refine ⟨K.1, K.2.1, fun p e s m args below meth c C ht H locs k9 n ls hp hl hk hn hv => ?_⟩
  have hts := C.2.2.2.2.2.1
  have hKs := C.2.2.2.2.2.2.2.2.1.K
  have hown := C.2.2.2.2.1
  have hap := va_apart (own := y.cls) hts f3 ty0 f5 f6 hKs f1
  obtain ⟨r9, h1, cell, q1, q2, q3, q4⟩ := k_hp_cell hp ho
  have hr : r9 = (C9, T, N) := Option.some.inj (h1.symm.trans f1)
  subst hr
  obtain ⟨hS, hfc, kC, hkC, hkind⟩ := hKs.1 ci _ f1
  obtain ⟨cf, kf, fi, f, hi, hsl⟩ := hS k f2
  have hlay := hts _ (f3 _ (u_in_lay f2))
  unfold u_lay at hlay
  rw [if_pos f7] at hlay
  have hst := (u_facts hfc hkC (u_lays hts f3 f2) hi).1
  have hcf : m.cls = cf := by
    obtain ⟨_, _, c', _, _, _, -, -, hf', -, -, -, hown2, -⟩ := Cond.laysFinal_spec hlay
    have e1 : c' = cf := by have := hi.symm.trans hf'; simp at this; exact this.1.symm
    rw [f9 rfl] at hown2
    rw [← e1]; exact Option.some.inj (hown.symm.trans hown2)
  have h6 := u_fits hfc hkC hkind (Or.inr hlay) hi f8 hv9.1 hv9.2
  refine W.putFinK C.1 C.2.1 hown (hts _ f4) hi hst hcf (C.2.2.2.2.2.2.2.1.trans hinit) (by rw [q2]; exact h6) q1 q3 (by rw [hsl]; exact k2_hasslot (q4 k f2)) rfl rfl hdg fun H' e1 e2 e3 => ?_
  rw [hsl] at e1 ⊢
  refine K.2.2 p e s m args below meth c C ht H' _ k9 n ls (k_hp_set hp ho (fun _ _ h => by cases h) e2 e3 (e := .inr (ci, (fs.set k v).map k_v)) ⟨_, f1, ?_⟩ (fun _ _ _ h => h)) (k_locs hl (k_hp_ge hp ho)) hk hn hv
  rw [List.map_set]
  exact t_OB.to (V := updV (vp_V (fs.map k_v)) k (k_v v)) ⟨_, e1, q2, q3, t_set q4 hap f2 (k_v v)⟩ (fun j _ => vp_updV_set (by rw [List.length_map]; exact hl9) (k_v v) j)
theorem j_new {idx ci N : Nat} {fs : List k_V} (hdg : decode cc pc = .ok (.new idx, 3)) (hf : k_cls y.cls idx ci N fs) (K : k_J G l y cc mL rt d h0 (k_nw h N (k_o ci fs)) (pc + 3) lv (vR (some h.2.1) :: st) h' r) : k_J G l y cc mL rt d h0 h pc lv st h' r := by
  obtain ⟨C9, T, ty, f1, f2, f3, f4, f5, f6, f7⟩ := hf
  have e1 : h.2.1 + 1 ≤ h'.2.1 := K.1
  have e2 : h.2.2 + N ≤ h'.2.2 := K.2.1
  refine ⟨by omega, by omega, fun p e s m args below meth c C ht H locs k n ls hp hl hk hn hv => ?_⟩
  have hts := C.2.2.2.2.2.1
  have hKn := C.2.2.2.2.2.2.2.2.1.K.1 ci _ f1
  refine W.newcK C.1 C.2.1 C.2.2.2.2.1 (hts _ f4) (hts _ f5) (hts _ f6) rfl hdg (by show k + 1 ≤ h'.2.1 - h0.2.1; omega) (by show n + N ≤ h'.2.2 - h0.2.2; omega) hKn.2.1 rfl fun H1 kC hkC z1 z2 o1 => ?_
  have K9 := K.2.2 p e s m args below meth c C ht H1 locs (k + 1) (n + N) ls (k_hp_new hp (n := N) (c := k_o ci fs) z2 o1 (e := .inr (ci, fs.map k_v)) ⟨_, f1, (u_born ty hts f2 hKn hkC z1 f3).to f7⟩ (fun _ _ _ h => h)) hl (by show k + 1 + h0.2.1 = h.2.1 + 1; omega) (by show n + N + h0.2.2 = h.2.2 + N; omega) hv
  have hz : H.size = h.2.1 := hp.1
  rw [← hz] at K9
  exact K9
end KJH
