/-! ROWS OF THE JDK'S LISTS: rows of references, the inherited field, ArrayList's empty row, class objects; and lists opened and closed -/
def k_fldS (own : String) (idx ci k : Nat) : Prop := ∃ (C ref : String) (T : u_T) (N : Nat), vwCl[ci]? = some (C, T, N) ∧ k < N ∧ (∀ w ∈ u_ws C T N, w ∈ k_tbl) ∧ Cond.fieldLink own idx ref (T k).2.1 (T k).2.2.1 ∈ k_tbl ∧ Cond.sameField ref (T k).1 (T k).2.1 (T k).2.2.1 ∈ k_tbl
def k_fldSP (own : String) (idx ci k : Nat) (ty : FieldType) : Prop := ∃ (C ref : String) (T : u_T) (N : Nat) (ty0 : Nat → FieldType), vwCl[ci]? = some (C, T, N) ∧ k < N ∧ (∀ w ∈ u_ws C T N, w ∈ k_tbl) ∧ Cond.fieldLink own idx ref (T k).2.1 (T k).2.2.1 ∈ k_tbl ∧ Cond.sameField ref (T k).1 (T k).2.1 (T k).2.2.1 ∈ k_tbl ∧
  (∀ k, k < N → parseFieldDescriptor (T k).2.2.1 = some (ty0 k)) ∧ (∀ a, a < N → ∀ b, b < N → a ≠ b → (T a).2.1 ≠ (T b).2.1) ∧ (T k).2.2.2 = false ∧ parseFieldDescriptor (T k).2.2.1 = some ty
theorem k_hp_q {G : k_G} {h : k_H} {H : Heap} (hp : k_hp G h H) {a n : Nat} {f : Nat → Option Nat} (ho : h.1 a = some (k_q n f)) : va_at (k_D G) vwCl (a, .inl (k_cQ G, n, .inr (.inr (.inr (.inr f))))) H := by
  obtain ⟨-, -, -, F, ow, h1, h2⟩ := hp
  exact (h1 _ _ (h2 _ _ ho)).2
theorem k_hp_gq {G : k_G} {h : k_H} {H : Heap} (hp : k_hp G h H) {a n : Nat} {f : Nat → Option Nat} (ho : h.1 a = some (k_q n f)) : k_we G a := by
  obtain ⟨-, -, -, F, ow, h1, h2⟩ := hp
  exact (h1 _ _ (h2 _ _ ho)).1
/-- classes whose objects may lie in a row of Objects -/
def k_toObj (ci : Nat) : Prop := ∃ (C : String) (T : u_T) (N : Nat), vwCl[ci]? = some (C, T, N) ∧ (C, "java/lang/Object") ∈ k_casts
theorem k_any {G : k_G} {s : State} {h : k_H} {H : Heap} {b ci : Nat} (hE : k_E G s) (hp : k_hp G h H) (hi : k_is h b ci) (hc : k_toObj ci) : va_Any "java/lang/Object" s H b := by
  obtain ⟨C, T, N, h1, h2⟩ := hc
  obtain ⟨cell, g1, g2, g3⟩ := k_recv hE hp hi h1
  obtain ⟨kC, hkC, -⟩ := Vm.findClass_spec g3
  obtain ⟨c3, c4, hc3, hc4, hasg⟩ := Cond.castable_spec (va_Nw.use (A := #[]) rfl (hE.2.2.2.2.2.2.2.1 _ h2))
  refine ⟨cell, g1, g2, ⟨kC, hkC⟩, fun comp hcm => ?_⟩
  cases Option.some.inj (hc3.symm.trans g3)
  cases Option.some.inj (hc4.symm.trans hcm)
  exact hasg
section KR
variable {G : k_G} {l : Launch} {y : MethodName} {cc : ByteArray} {mL : Nat} {rt : Option FieldType} {d : Nat} {h0 h h' : k_H} {pc : Nat} {lv : k_L} {st : List k_V} {r : k_R}
theorem j_getfS {a idx ci k : Nat} {fs : List k_V} {v : k_V} (hdg : decode cc pc = .ok (.getfield idx, 3)) (hf : k_fldS y.cls idx ci k) (ho : h.1 a = some (k_o ci fs)) (hv9 : fs[k]? = some v) (K : k_J G l y cc mL rt d h0 h (pc + 3) lv (v :: st) h' r) : k_J G l y cc mL rt d h0 h pc lv (vR (some a) :: st) h' r := by
  obtain ⟨C9, ref, T, N, f1, f2, f3, f4, f5⟩ := hf
  exact ⟨K.1, K.2.1, fun p e s m args below meth c C ht H locs k n ls hp hl hk hn hv => va_get (Ts := k_tbl) C.1 C.2.1 C.2.2.2.2.2.1 f3 C.2.2.2.2.1 C.2.2.2.2.2.2.2.2.1.K (k_P1 (k_hp_cell hp ho)) 0 rfl f1 _ f2 (C.2.2.2.2.2.1 _ f4) (fun x h9 => u_same (C.2.2.2.2.2.1 _ f5) x h9) (k_mv hv9) hdg (K.2.2 p e s m args below meth c C ht H locs k n ls hp hl hk hn hv)⟩
theorem j_putfS {a idx ci k : Nat} {fs fs9 : List k_V} {v : k_V} {ty : FieldType} (hdg : decode cc pc = .ok (.putfield idx, 3)) (hf : k_fldSP y.cls idx ci k ty) (ho : h.1 a = some (k_o ci fs)) (hl9 : k < fs.length) (hv9 : k_fit ty v) (hs9 : fs.set k v = fs9) (K : k_J G l y cc mL rt d h0 (k_up h a (k_o ci fs9)) (pc + 3) lv st h' r) : k_J G l y cc mL rt d h0 h pc lv (v :: vR (some a) :: st) h' r := by
  subst hs9
  obtain ⟨C9, ref, T, N, ty0, f1, f2, f3, f4, f4', f5, f6, f7, f8⟩ := hf
  refine ⟨K.1, K.2.1, fun p e s m args below meth c C ht H locs k9 n ls hp hl hk hn hv => ?_⟩
  have hts := C.2.2.2.2.2.1
  have hKs := C.2.2.2.2.2.2.2.2.1.K
  have hap := va_apart (own := y.cls) hts f3 ty0 f5 f6 hKs f1
  obtain ⟨r9, h1, cell, q1, q2, q3, q4⟩ := k_hp_cell hp ho
  have hr : r9 = (C9, T, N) := Option.some.inj (h1.symm.trans f1)
  subst hr
  obtain ⟨hS, hfc, kC, hkC, hkind⟩ := hKs.1 ci _ f1
  obtain ⟨cf, kf, fi, f, hi, hsl⟩ := hS k f2
  have hlay := hts _ (f3 _ (u_in_lay f2))
  unfold u_lay at hlay
  rw [if_neg (by rw [f7]; decide)] at hlay
  have hst := (u_facts hfc hkC (u_lays hts f3 f2) hi).1
  have h6 := u_store hfc hkC hkind hlay hi f8 hv9.1 hv9.2
  refine W.putK C.1 C.2.1 (f := f) ⟨C.2.2.2.2.1, hts _ f4, ⟨_, _, _, u_same (hts _ f4') _ hi⟩, hst⟩ (by rw [q2]; exact h6) q1 q3 (by rw [hsl]; exact k2_hasslot (q4 k f2)) rfl rfl hdg fun H' e1 e2 e3 => ?_
  rw [hsl] at e1 ⊢
  refine K.2.2 p e s m args below meth c C ht H' _ k9 n ls (k_hp_set hp ho (fun _ _ h => by cases h) e2 e3 (e := .inr (ci, (fs.set k v).map k_v)) ⟨_, f1, ?_⟩ (fun _ _ _ h => h)) (k_locs hl (k_hp_ge hp ho)) hk hn hv
  rw [List.map_set]
  exact t_OB.to (V := updV (vp_V (fs.map k_v)) k (k_v v)) ⟨_, e1, q2, q3, t_set q4 hap f2 (k_v v)⟩ (fun j _ => vp_updV_set (by rw [List.length_map]; exact hl9) (k_v v) j)
theorem j_aald {a n0 : Nat} {f : Nat → Option Nat} {i : Int32} (hdg : decode cc pc = .ok (.aaload, 1)) (ho : h.1 a = some (k_q n0 f)) (hi : vp_in i n0) (K : k_J G l y cc mL rt d h0 h (pc + 1) lv (vR (f i.toNatClampNeg) :: st) h' r) : k_J G l y cc mL rt d h0 h pc lv (vI i :: vR (some a) :: st) h' r :=
  ⟨K.1, K.2.1, fun p e s m args below meth c C ht H locs k n ls hp hl hk hn hv => by
    have K9 := K.2.2 p e s m args below meth c C ht H locs k n ls hp hl hk hn hv
    refine va_aldq C.1 C.2.1 C.2.2.2.2.2.2.2.2.1.K (k_P1 (k_hp_q hp ho)) 0 3 rfl rfl hi hdg ?_
    rw [← k_v_rf]
    exact K9⟩
theorem j_aast {a n0 : Nat} {f : Nat → Option Nat} {i : Int32} {v : Option Nat} (hdg : decode cc pc = .ok (.aastore, 1)) (ho : h.1 a = some (k_q n0 f)) (hi : vp_in i n0) (hv9 : ∀ b, v = some b → ∃ ci, k_is h b ci ∧ k_toObj ci) (K : k_J G l y cc mL rt d h0 (k_up h a (k_q n0 (va_up f i.toNatClampNeg v))) (pc + 1) lv st h' r) : k_J G l y cc mL rt d h0 h pc lv (vR v :: vI i :: vR (some a) :: st) h' r := by
  refine ⟨K.1, K.2.1, fun p e s m args below meth c C ht H locs k n ls hp hl hk hn hv => ?_⟩
  have hE := C.2.2.2.2.2.2.2.2.1
  have hKs := hE.K
  have hlt : i.toNatClampNeg < n0 := Nat.not_le.mp fun q => hi (Or.inr q)
  have h0' : ¬ i < 0 := fun q => hi (Or.inl q)
  have fin : ∀ H1 : Heap, H1[a]? = some ((vp_cell (k_cQ G) (n0, .inr (.inr (.inr (.inr f))))).setSlot i.toNatClampNeg (va_rf v)) → H1.size = H.size → (∀ q, q ≠ a → H1[q]? = H[q]?) → k_hp G (k_up h a (k_q n0 (va_up f i.toNatClampNeg v))) H1 := fun H1 e1 z oq => by
    refine k_hp_set hp ho (fun _ _ h => by cases h) z oq (e := .inl (k_cQ G, n0, .inr (.inr (.inr (.inr (va_up f i.toNatClampNeg v)))))) ?_ (fun _ _ _ h => h)
    show H1[a]? = some (vp_cell _ _)
    rw [e1]
    rw [vp_cell_q, vp_cell_q, arrV_store]
    congr 2
    funext q
    simp only [updV, va_up]
    split <;> rfl
  cases v with
  | none =>
    exact va_WaastN (C := "java/lang/Object") C.1 C.2.1 (k_hp_q hp ho) ((hKs.2 3 _ rfl).1 n0 (fun j => va_rf (f j))) (fun h => by cases h) (by show ¬ (i < 0 ∨ (arrV _ _ _).slots.size ≤ _); rw [arrV_size]; exact hi) rfl rfl hdg fun H1 e1 z oq => K.2.2 p e s m args below meth c C ht H1 _ k n ls (fin H1 e1 z oq) (k_locs hl (k_hp_gq hp ho)) hk hn hv
  | some b =>
    obtain ⟨ci, w1, w2⟩ := hv9 b rfl
    obtain ⟨cellV, g1, g3, ⟨kC, hkC⟩, hasg⟩ := k_any hE hp w1 w2
    obtain ⟨kA, comp, k1, k2, k3, -⟩ := (hKs.2 3 _ rfl).2
    obtain ⟨kE, hkE, -⟩ := Vm.findClass_spec k3
    exact W.aast C.1 C.2.1 (cell := vp_cell (k_cQ G) (n0, .inr (.inr (.inr (.inr f))))) (k_hp_q hp ho) (fun q h => by cases h) (fun h => by cases h) k1 k2 rfl hkE ⟨h0', by show _ < (arrV _ _ _).slots.size; rw [arrV_size]; exact hlt⟩ g1 (fun q h => by rw [h] at g3; cases g3) hkC (hasg _ k3) rfl rfl hdg fun H1 e1 z oq => K.2.2 p e s m args below meth c C ht H1 _ k n ls (fin H1 e1 z oq) (k_locs hl (k_hp_gq hp ho)) hk hn hv
theorem j_anew {idx : Nat} {n0 : Int32} {N : Nat} (hdg : decode cc pc = .ok (.anewarray idx, 3)) (hc9 : Cond.classLink y.cls idx "java/lang/Object" ∈ k_tbl) (hN : n0 = nI N) (hb : N < 2 ^ 20) (K : k_J G l y cc mL rt d h0 (k_nw h N (k_q N (fun _ => none))) (pc + 3) lv (vR (some h.2.1) :: st) h' r) : k_J G l y cc mL rt d h0 h pc lv (vI n0 :: st) h' r := by
  have e1 : h.2.1 + 1 ≤ h'.2.1 := K.1
  have e2 : h.2.2 + N ≤ h'.2.2 := K.2.1
  refine ⟨by omega, by omega, fun p e s m args below meth c C ht H locs k n ls hp hl hk hn hv => ?_⟩
  have hE := C.2.2.2.2.2.2.2.2.1
  have hKs := hE.K
  have hcl : (nI N).toNatClampNeg = N := nI_clamp (by omega)
  subst hN
  refine W.anew C.1 C.2.1 C.2.2.2.2.1 (C.2.2.2.2.2.1 _ hc9) (va_AO.use hE.2.2.2.2.2.2.2.2.2.2.2.2.2.1) rfl hdg rfl (nI_pos (by omega)) (by rw [hcl]; omega) (by show k + 1 ≤ h'.2.1 - h0.2.1; omega) (by rw [hcl]; show n + N ≤ h'.2.2 - h0.2.2; omega) fun cA kA comp f1 f2 f3 f4 => ?_
  have hcc : cA = k_cQ G := by
    obtain ⟨-, -, -, -, -, h9⟩ := (hKs.2 3 _ rfl).2
    exact Option.some.inj (f1.symm.trans h9)
  subst hcc
  rw [hcl]
  generalize hH1 : H.push ({ cls := k_cQ G, slots := Array.replicate N .null, vm := .none } : Cell) = H1
  have z2 : H1.size = H.size + 1 := by rw [← hH1, Array.size_push]
  have z1 : H1[H.size]? = some (arrV (k_cQ G) N (fun _ => .null)) := by rw [← hH1, Array.getElem?_push_size, ← arrV_new]
  have o1 : ∀ q : Nat, q < H.size → H1[q]? = H[q]? := fun q hq => by rw [← hH1, Array.getElem?_push, if_neg (Nat.ne_of_lt hq)]
  have K9 := K.2.2 p e s m args below meth c C ht H1 locs (k + 1) (n + N) ls (k_hp_new hp (n := N) (c := k_q N (fun _ => none)) z2 o1 (e := .inl (k_cQ G, N, .inr (.inr (.inr (.inr (fun _ => none)))))) (by show H1[H.size]? = some (vp_cell _ _); rw [z1, vp_cell_q]; rfl) (fun _ _ _ h => h)) hl (by show k + 1 + h0.2.1 = h.2.1 + 1; omega) (by show n + N + h0.2.2 = h.2.2 + N; omega) hv
  rw [← hp.1] at K9
  exact K9
theorem j_qlen {a n0 : Nat} {f : Nat → Option Nat} (hdg : decode cc pc = .ok (.arraylength, 1)) (ho : h.1 a = some (k_q n0 f)) (K : k_J G l y cc mL rt d h0 h (pc + 1) lv (vI (nI n0) :: st) h' r) : k_J G l y cc mL rt d h0 h pc lv (vR (some a) :: st) h' r :=
  ⟨K.1, K.2.1, fun p e s m args below meth c C ht H locs k n ls hp hl hk hn hv => va_alen C.1 C.2.1 C.2.2.2.2.2.2.2.2.1.K (k_P1 (k_hp_q hp ho)) 0 3 rfl rfl rfl hdg (K.2.2 p e s m args below meth c C ht H locs k n ls hp hl hk hn hv)⟩
theorem k_hS {G : k_G} {h0 h : k_H} {s : State} {H : Heap} {locs : List Loc} {k : Nat} (hs : k_hp G h0 s.heap) (hp : k_hp G h H) (hk : k + h0.2.1 = h.2.1) (hl : ∀ q ∈ locs, k_we G q.base) : va_S (fun q => (k_H0 G).size ≤ q) s.heap H locs := ⟨by rw [hs.1, hp.1]; omega, fun q h1 h2 => by rw [hp.2.2.1 q (by omega), hs.2.2.1 q (by omega)], fun q hq => (hl q hq).1⟩
theorem k_keep {G : k_G} {h0 : k_H} {s : State} (hs : k_hp G h0 s.heap) : ∀ q : Nat, q < (k_H0 G).size → ¬ ((k_H0 G).size ≤ q) → s.heap[q]? = (k_H0 G)[q]? := fun q h1 _ => hs.2.2.1 q h1
theorem j_zlen (hdg : decode cc pc = .ok (.arraylength, 1)) (K : k_J G l y cc mL rt d h0 h (pc + 1) lv (vI 0 :: st) h' r) : k_J G l y cc mL rt d h0 h pc lv (vR (some (k_z0 G)) :: st) h' r :=
  ⟨K.1, K.2.1, fun p e s m args below meth c C ht H locs k n ls hp hl hk hn hv => by
    have hE := C.2.2.2.2.2.2.2.2.1
    have hs := C.2.2.2.2.2.2.2.2.2.1
    exact va_tlen C.1 C.2.1 (va_T.kept hE.2.2.2.2.2.1 (k_keep hs)) (k_hS hs hp hk hl) rfl hdg (K.2.2 p e s m args below meth c C ht H locs k n ls hp hl hk hn hv)⟩
theorem j_getsE {idx : Nat} (hdg : decode cc pc = .ok (.getstatic idx, 3)) (hw : Cond.fieldLink y.cls idx k_AL "DEFAULTCAPACITY_EMPTY_ELEMENTDATA" k_OA ∈ k_tbl) (K : k_J G l y cc mL rt d h0 h (pc + 3) lv (vR (some (k_z0 G)) :: st) h' r) : k_J G l y cc mL rt d h0 h pc lv st h' r :=
  ⟨K.1, K.2.1, fun p e s m args below meth c C ht H locs k n ls hp hl hk hn hv => by
    have hE := C.2.2.2.2.2.2.2.2.1
    have hs := C.2.2.2.2.2.2.2.2.2.1
    exact va_gets C.1 C.2.1 (va_Z.kept hE.2.2.2.2.1 (k_keep hs)) (k_hS hs hp hk hl) C.2.2.2.2.1 (C.2.2.2.2.2.1 _ hw) (fun _ h9 => h9) hdg (K.2.2 p e s m args below meth c C ht H locs k n ls hp hl hk hn hv)⟩
theorem j_ldcM {idx : Nat} (hdg : decode cc pc = .ok (.ldc idx, 2)) (hw : Cond.classLink y.cls idx k_OA ∈ k_tbl) (K : k_J G l y cc mL rt d h0 h (pc + 2) lv (vR (some (k_mi G)) :: st) h' r) : k_J G l y cc mL rt d h0 h pc lv st h' r :=
  ⟨K.1, K.2.1, fun p e s m args below meth c C ht H locs k n ls hp hl hk hn hv => va_ldcM C.1 C.2.1 C.2.2.2.2.1 (C.2.2.2.2.2.1 _ hw) C.2.2.2.2.2.2.2.2.1.2.2.2.2.2.2.2.2.2.2.2.2.1 hdg (K.2.2 p e s m args below meth c C ht H locs k n ls hp hl hk hn hv)⟩
theorem j_ishr {x z : Int32} (hdg : decode cc pc = .ok (.ishr, 1)) (K : k_J G l y cc mL rt d h0 h (pc + 1) lv (vI (x >>> (z &&& 31)) :: st) h' r) : k_J G l y cc mL rt d h0 h pc lv (vI z :: vI x :: st) h' r :=
  ⟨K.1, K.2.1, fun p e s m args below meth c C ht H locs k n ls hp hl hk hn hv => lv_ishr C.1 C.2.1 hdg (K.2.2 p e s m args below meth c C ht H locs k n ls hp hl hk hn hv)⟩
end KR
