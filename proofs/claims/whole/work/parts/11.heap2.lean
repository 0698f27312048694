section KJA
variable {G : k_G} {l : Launch} {y : MethodName} {cc : ByteArray} {mL : Nat} {rt : Option FieldType} {d : Nat} {h0 h h' : k_H} {pc : Nat} {lv : k_L} {st : List k_V} {r : k_R}
theorem j_iald {a n0 : Nat} {f : Nat → Int32} {i : Int32} (hdg : decode cc pc = .ok (.iaload, 1)) (ho : h.1 a = some (k_i n0 f)) (hi : vp_in i n0) (K : k_J G l y cc mL rt d h0 h (pc + 1) lv (vI (f i.toNatClampNeg) :: st) h' r) : k_J G l y cc mL rt d h0 h pc lv (vI i :: vR (some a) :: st) h' r :=
  ⟨K.1, K.2.1, fun p e s m args below meth c C ht H locs k n ls hp hl hk hn hv => va_iald C.1 C.2.1 C.2.2.2.2.2.2.2.2.1.K (k_P1 (k_hp_i hp ho)) 0 0 rfl rfl hi hdg (K.2.2 p e s m args below meth c C ht H locs k n ls hp hl hk hn hv)⟩
theorem j_lald {a n0 : Nat} {f : Nat → Int64} {i : Int32} (hdg : decode cc pc = .ok (.laload, 1)) (ho : h.1 a = some (k_j n0 f)) (hi : vp_in i n0) (K : k_J G l y cc mL rt d h0 h (pc + 1) lv (vJ (f i.toNatClampNeg) :: st) h' r) : k_J G l y cc mL rt d h0 h pc lv (vI i :: vR (some a) :: st) h' r :=
  ⟨K.1, K.2.1, fun p e s m args below meth c C ht H locs k n ls hp hl hk hn hv => va_lald C.1 C.2.1 C.2.2.2.2.2.2.2.2.1.K (k_P1 (k_hp_j hp ho)) 0 1 rfl rfl hi hdg (K.2.2 p e s m args below meth c C ht H locs k n ls hp hl hk hn hv)⟩
theorem j_zald {a n0 : Nat} {f : Nat → Int32} {i : Int32} (hdg : decode cc pc = .ok (.baload, 1)) (ho : h.1 a = some (k_z n0 f)) (hi : vp_in i n0) (K : k_J G l y cc mL rt d h0 h (pc + 1) lv (vI (f i.toNatClampNeg) :: st) h' r) : k_J G l y cc mL rt d h0 h pc lv (vI i :: vR (some a) :: st) h' r :=
  ⟨K.1, K.2.1, fun p e s m args below meth c C ht H locs k n ls hp hl hk hn hv => va_zald C.1 C.2.1 C.2.2.2.2.2.2.2.2.1.K (k_P1 (k_hp_z hp ho)) 0 2 rfl rfl hi hdg (K.2.2 p e s m args below meth c C ht H locs k n ls hp hl hk hn hv)⟩
theorem k_hp_gi {G : k_G} {h : k_H} {H : Heap} (hp : k_hp G h H) {a n : Nat} {f : Nat → Int32} (ho : h.1 a = some (k_i n f)) : k_we G a := by
  obtain ⟨-, -, -, F, ow, h1, h2⟩ := hp
  exact (h1 _ _ (h2 _ _ ho)).1
theorem k_hp_gj {G : k_G} {h : k_H} {H : Heap} (hp : k_hp G h H) {a n : Nat} {f : Nat → Int64} (ho : h.1 a = some (k_j n f)) : k_we G a := by
  obtain ⟨-, -, -, F, ow, h1, h2⟩ := hp
  exact (h1 _ _ (h2 _ _ ho)).1
theorem k_hp_gz {G : k_G} {h : k_H} {H : Heap} (hp : k_hp G h H) {a n : Nat} {f : Nat → Int32} (ho : h.1 a = some (k_z n f)) : k_we G a := by
  obtain ⟨-, -, -, F, ow, h1, h2⟩ := hp
  exact (h1 _ _ (h2 _ _ ho)).1
theorem j_iast {a n0 : Nat} {f : Nat → Int32} {i x : Int32} (hdg : decode cc pc = .ok (.iastore, 1)) (ho : h.1 a = some (k_i n0 f)) (hi : vp_in i n0) (K : k_J G l y cc mL rt d h0 (k_up h a (k_i n0 (va_up f i.toNatClampNeg x))) (pc + 1) lv st h' r) : k_J G l y cc mL rt d h0 h pc lv (vI x :: vI i :: vR (some a) :: st) h' r := by
  refine ⟨K.1, K.2.1, fun p e s m args below meth c C ht H locs k n ls hp hl hk hn hv => ?_⟩
  have hKs := C.2.2.2.2.2.2.2.2.1.K
  refine W.iast C.1 C.2.1 (cell := vp_cell (k_cI G) (n0, .inl f)) (k_hp_i hp ho) ((hKs.2 0 _ rfl).1 n0 (fun j => .int (f j))) (fun q => by cases q) (by show ¬ (i < 0 ∨ (arrV _ _ _).slots.size ≤ _); rw [arrV_size]; exact hi) rfl rfl hdg fun H1 e1 z oq => ?_
  refine K.2.2 p e s m args below meth c C ht H1 _ k n ls (k_hp_set hp ho (fun _ _ h => by cases h) z oq (e := .inl (k_cI G, n0, .inl (va_up f i.toNatClampNeg x))) ?_ (fun _ _ _ h => h)) (k_locs hl (k_hp_gi hp ho)) hk hn hv
  show H1[a]? = some (vp_cell _ _)
  rw [e1]
  rw [vp_cell_i, vp_cell_i, arrV_store]
  congr 2
  funext q
  simp only [updV, va_up]
  split <;> rfl
theorem j_last {a n0 : Nat} {f : Nat → Int64} {i : Int32} {x : Int64} (hdg : decode cc pc = .ok (.lastore, 1)) (ho : h.1 a = some (k_j n0 f)) (hi : vp_in i n0) (K : k_J G l y cc mL rt d h0 (k_up h a (k_j n0 (va_up f i.toNatClampNeg x))) (pc + 1) lv st h' r) : k_J G l y cc mL rt d h0 h pc lv (vJ x :: vI i :: vR (some a) :: st) h' r := by
  refine ⟨K.1, K.2.1, fun p e s m args below meth c C ht H locs k n ls hp hl hk hn hv => ?_⟩
  have hKs := C.2.2.2.2.2.2.2.2.1.K
  refine W.last C.1 C.2.1 (cell := vp_cell (k_cJ G) (n0, .inr (.inl f))) (k_hp_j hp ho) ((hKs.2 1 _ rfl).1 n0 (fun j => .long (f j))) (fun q => by cases q) (by show ¬ (i < 0 ∨ (arrV _ _ _).slots.size ≤ _); rw [arrV_size]; exact hi) rfl rfl hdg fun H1 e1 z oq => ?_
  refine K.2.2 p e s m args below meth c C ht H1 _ k n ls (k_hp_set hp ho (fun _ _ h => by cases h) z oq (e := .inl (k_cJ G, n0, .inr (.inl (va_up f i.toNatClampNeg x)))) ?_ (fun _ _ _ h => h)) (k_locs hl (k_hp_gj hp ho)) hk hn hv
  show H1[a]? = some (vp_cell _ _)
  rw [e1]
  rw [vp_cell_l, vp_cell_l, arrV_store]
  congr 2
  funext q
  simp only [updV, va_up]
  split <;> rfl
theorem j_zast {a n0 : Nat} {f : Nat → Int32} {i x : Int32} (hdg : decode cc pc = .ok (.bastore, 1)) (ho : h.1 a = some (k_z n0 f)) (hi : vp_in i n0) (hx : k_bl x) (K : k_J G l y cc mL rt d h0 (k_up h a (k_z n0 (va_up f i.toNatClampNeg x))) (pc + 1) lv st h' r) : k_J G l y cc mL rt d h0 h pc lv (vI x :: vI i :: vR (some a) :: st) h' r := by
  refine ⟨K.1, K.2.1, fun p e s m args below meth c C ht H locs k n ls hp hl hk hn hv => ?_⟩
  have hKs := C.2.2.2.2.2.2.2.2.1.K
  refine W.zast C.1 C.2.1 (cell := vp_cell (k_cZ G) (n0, .inl f)) (k_hp_z hp ho) ((hKs.2 2 _ rfl).1 n0 (fun j => .int (f j))) (fun q => by cases q) (by show ¬ (i < 0 ∨ (arrV _ _ _).slots.size ≤ _); rw [arrV_size]; exact hi) rfl rfl hdg fun H1 e1 z oq => ?_
  refine K.2.2 p e s m args below meth c C ht H1 _ k n ls (k_hp_set hp ho (fun _ _ h => by cases h) z oq (e := .inl (k_cZ G, n0, .inl (va_up f i.toNatClampNeg x))) ?_ (fun _ _ _ h => h)) (k_locs hl (k_hp_gz hp ho)) hk hn hv
  show H1[a]? = some (vp_cell _ _)
  rw [e1]
  rw [vp_cell_i, vp_cell_i, arrV_store]
  congr 2
  funext q
  have hn9 : vp_nar .boolean x = x := by rcases hx with rfl | rfl <;> rfl
  simp only [updV, va_up]
  split
  · first | rfl | (show _ = Value.int x; rw [← hn9]; rcases hx with rfl | rfl <;> rfl)
  · rfl
theorem k_hp_len {G : k_G} {h : k_H} {H : Heap} (hp : k_hp G h H) : H.size = h.2.1 := hp.1
theorem k_ra {u : State} {cA : ClassId} (hA : va_RA u cA .int ∨ va_RA u cA .long ∨ va_RA u cA .boolean) : True := trivial
theorem j_newi {n0 : Int32} {N : Nat} (hdg : decode cc pc = .ok (.newarray .int, 2)) (harr : Cond.arrayClass .int ∈ k_tbl) (hN : n0 = nI N) (hb : N < 2 ^ 20) (K : k_J G l y cc mL rt d h0 (k_nw h N (k_i N (fun _ => 0))) (pc + 2) lv (vR (some h.2.1) :: st) h' r) : k_J G l y cc mL rt d h0 h pc lv (vI n0 :: st) h' r := by
  have e1 : h.2.1 + 1 ≤ h'.2.1 := K.1
  have e2 : h.2.2 + N ≤ h'.2.2 := K.2.1
  refine ⟨by omega, by omega, fun p e s m args below meth c C ht H locs k n ls hp hl hk hn hv => ?_⟩
  have hKs := C.2.2.2.2.2.2.2.2.1.K
  have hcl : (nI N).toNatClampNeg = N := nI_clamp (by omega)
  refine va_newaK (N := N) C.1 C.2.1 (atype := .int) (C.2.2.2.2.2.1 _ harr) rfl hdg rfl (by rw [hN]; exact nI_pos (by omega)) (by rw [hN]; exact hcl) (by show N * 4 ≤ 536870912; omega) (by show k + 1 ≤ h'.2.1 - h0.2.1; omega) (by show n + N ≤ h'.2.2 - h0.2.2; omega) rfl fun H1 cA z1 z2 o1 hAr hNm => ?_
  have hcc : cA = k_cI G := by
    have h9 := (hKs.2 0 _ rfl).2
    have h8 : s.vm.findClass ("[" ++ (FieldType.int).toString) = some (k_cI G) := h9
    exact Option.some.inj (hNm.symm.trans h8)
  subst hcc
  have K9 := K.2.2 p e s m args below meth c C ht H1 locs (k + 1) (n + N) ls (k_hp_new hp (n := N) (c := k_i N (fun _ => 0)) z2 o1 (e := .inl (k_cI G, N, .inl (fun _ => 0))) (by show H1[H.size]? = some (vp_cell _ _); rw [z1, vp_cell_i]; rfl) (fun _ _ _ h => h)) hl (by show k + 1 + h0.2.1 = h.2.1 + 1; omega) (by show n + N + h0.2.2 = h.2.2 + N; omega) hv
  rw [← hp.1] at K9
  exact K9
theorem j_newj {n0 : Int32} {N : Nat} (hdg : decode cc pc = .ok (.newarray .long, 2)) (harr : Cond.arrayClass .long ∈ k_tbl) (hN : n0 = nI N) (hb : N < 2 ^ 20) (K : k_J G l y cc mL rt d h0 (k_nw h N (k_j N (fun _ => 0))) (pc + 2) lv (vR (some h.2.1) :: st) h' r) : k_J G l y cc mL rt d h0 h pc lv (vI n0 :: st) h' r := by
  have e1 : h.2.1 + 1 ≤ h'.2.1 := K.1
  have e2 : h.2.2 + N ≤ h'.2.2 := K.2.1
  refine ⟨by omega, by omega, fun p e s m args below meth c C ht H locs k n ls hp hl hk hn hv => ?_⟩
  have hKs := C.2.2.2.2.2.2.2.2.1.K
  have hcl : (nI N).toNatClampNeg = N := nI_clamp (by omega)
  refine va_newaK (N := N) C.1 C.2.1 (atype := .long) (C.2.2.2.2.2.1 _ harr) rfl hdg rfl (by rw [hN]; exact nI_pos (by omega)) (by rw [hN]; exact hcl) (by show N * 8 ≤ 536870912; omega) (by show k + 1 ≤ h'.2.1 - h0.2.1; omega) (by show n + N ≤ h'.2.2 - h0.2.2; omega) rfl fun H1 cA z1 z2 o1 hAr hNm => ?_
  have hcc : cA = k_cJ G := by
    have h9 := (hKs.2 1 _ rfl).2
    have h8 : s.vm.findClass ("[" ++ (FieldType.long).toString) = some (k_cJ G) := h9
    exact Option.some.inj (hNm.symm.trans h8)
  subst hcc
  have K9 := K.2.2 p e s m args below meth c C ht H1 locs (k + 1) (n + N) ls (k_hp_new hp (n := N) (c := k_j N (fun _ => 0)) z2 o1 (e := .inl (k_cJ G, N, .inr (.inl (fun _ => 0)))) (by show H1[H.size]? = some (vp_cell _ _); rw [z1, vp_cell_l]; rfl) (fun _ _ _ h => h)) hl (by show k + 1 + h0.2.1 = h.2.1 + 1; omega) (by show n + N + h0.2.2 = h.2.2 + N; omega) hv
  rw [← hp.1] at K9
  exact K9
theorem j_newz {n0 : Int32} {N : Nat} (hdg : decode cc pc = .ok (.newarray .boolean, 2)) (harr : Cond.arrayClass .boolean ∈ k_tbl) (hN : n0 = nI N) (hb : N < 2 ^ 20) (K : k_J G l y cc mL rt d h0 (k_nw h N (k_z N (fun _ => 0))) (pc + 2) lv (vR (some h.2.1) :: st) h' r) : k_J G l y cc mL rt d h0 h pc lv (vI n0 :: st) h' r := by
  have e1 : h.2.1 + 1 ≤ h'.2.1 := K.1
  have e2 : h.2.2 + N ≤ h'.2.2 := K.2.1
  refine ⟨by omega, by omega, fun p e s m args below meth c C ht H locs k n ls hp hl hk hn hv => ?_⟩
  have hKs := C.2.2.2.2.2.2.2.2.1.K
  have hcl : (nI N).toNatClampNeg = N := nI_clamp (by omega)
  refine va_newaK (N := N) C.1 C.2.1 (atype := .boolean) (C.2.2.2.2.2.1 _ harr) rfl hdg rfl (by rw [hN]; exact nI_pos (by omega)) (by rw [hN]; exact hcl) (by show N * 1 ≤ 536870912; omega) (by show k + 1 ≤ h'.2.1 - h0.2.1; omega) (by show n + N ≤ h'.2.2 - h0.2.2; omega) rfl fun H1 cA z1 z2 o1 hAr hNm => ?_
  have hcc : cA = k_cZ G := by
    have h9 := (hKs.2 2 _ rfl).2
    have h8 : s.vm.findClass ("[" ++ (FieldType.boolean).toString) = some (k_cZ G) := h9
    exact Option.some.inj (hNm.symm.trans h8)
  subst hcc
  have K9 := K.2.2 p e s m args below meth c C ht H1 locs (k + 1) (n + N) ls (k_hp_new hp (n := N) (c := k_z N (fun _ => 0)) z2 o1 (e := .inl (k_cZ G, N, .inl (fun _ => 0))) (by show H1[H.size]? = some (vp_cell _ _); rw [z1, vp_cell_i]; rfl) (fun _ _ _ h => h)) hl (by show k + 1 + h0.2.1 = h.2.1 + 1; omega) (by show n + N + h0.2.2 = h.2.2 + N; omega) hv
  rw [← hp.1] at K9
  exact K9
theorem j_alen {a n0 : Nat} {f : Nat → Int32} (hdg : decode cc pc = .ok (.arraylength, 1)) (ho : h.1 a = some (k_i n0 f)) (K : k_J G l y cc mL rt d h0 h (pc + 1) lv (vI (nI n0) :: st) h' r) : k_J G l y cc mL rt d h0 h pc lv (vR (some a) :: st) h' r :=
  ⟨K.1, K.2.1, fun p e s m args below meth c C ht H locs k n ls hp hl hk hn hv => va_alen C.1 C.2.1 C.2.2.2.2.2.2.2.2.1.K (k_P1 (k_hp_i hp ho)) 0 0 rfl rfl rfl hdg (K.2.2 p e s m args below meth c C ht H locs k n ls hp hl hk hn hv)⟩
/-- a cast to the very class -/
theorem j_cast {a idx ci : Nat} {fs : List k_V} (hdg : decode cc pc = .ok (.checkcast idx, 3)) (hf : ∃ (C9 : String) (T : u_T) (N : Nat), vwCl[ci]? = some (C9, T, N) ∧ Cond.classLink y.cls idx C9 ∈ k_tbl) (ho : h.1 a = some (k_o ci fs)) (K : k_J G l y cc mL rt d h0 h (pc + 3) lv (vR (some a) :: st) h' r) : k_J G l y cc mL rt d h0 h pc lv (vR (some a) :: st) h' r := by
  obtain ⟨C9, T, N, f1, f2⟩ := hf
  refine ⟨K.1, K.2.1, fun p e s m args below meth c C ht H locs k n ls hp hl hk hn hv => ?_⟩
  have hKs := C.2.2.2.2.2.2.2.2.1.K
  exact va_castS C.1 C.2.1 C.2.2.2.2.1 (C.2.2.2.2.2.1 _ f2) (hKs.1 ci _ f1).2 (va_recv hKs (k_P1 (k_hp_cell hp ho)) f1 (q0 := 0) rfl) hdg (K.2.2 p e s m args below meth c C ht H locs k n ls hp hl hk hn hv)
/-! THE ENDS -/
theorem k_cnt {k a b : Nat} (h : k + a = b) : b - a = k := by omega
theorem j_iret {x : Int32} (hdg : decode cc pc = .ok (.ireturn, 1)) (hr : rt = some .int) : k_J G l y cc mL rt d h0 h pc lv [vI x] h (.inl (some (vI x))) :=
  ⟨Nat.le_refl _, Nat.le_refl _, fun p e s m args below meth c C ht H locs k n ls hp hl hk hn hv => by
    rw [k_cnt hk, k_cnt hn]
    exact vx_ret (W.iret C.1 C.2.1 (C.2.2.1.trans hr) (fun t ht9 hW => ⟨_, rfl, rfl, by rw [ht9]; exact hp⟩) hl hdg C.2.2.2.2.2.2.1)⟩
theorem j_zret {x : Int32} (hdg : decode cc pc = .ok (.ireturn, 1)) (hr : rt = some .boolean) (hx : k_bl x) : k_J G l y cc mL rt d h0 h pc lv [vI x] h (.inl (some (vI x))) :=
  ⟨Nat.le_refl _, Nat.le_refl _, fun p e s m args below meth c C ht H locs k n ls hp hl hk hn hv => by
    rw [k_cnt hk, k_cnt hn]
    exact vx_ret (W.zret C.1 C.2.1 (C.2.2.1.trans hr) (by rcases hx with rfl | rfl <;> rfl) (fun t ht9 hW => ⟨_, rfl, rfl, by rw [ht9]; exact hp⟩) hl hdg C.2.2.2.2.2.2.1)⟩
theorem j_lret {x : Int64} (hdg : decode cc pc = .ok (.lreturn, 1)) (hr : rt = some .long) : k_J G l y cc mL rt d h0 h pc lv [vJ x] h (.inl (some (vJ x))) :=
  ⟨Nat.le_refl _, Nat.le_refl _, fun p e s m args below meth c C ht H locs k n ls hp hl hk hn hv => by
    rw [k_cnt hk, k_cnt hn]
    exact vx_ret (W.lret C.1 C.2.1 (C.2.2.1.trans hr) (fun t ht9 hW => ⟨_, rfl, rfl, by rw [ht9]; exact hp⟩) hl hdg C.2.2.2.2.2.2.1)⟩
theorem j_vret (hdg : decode cc pc = .ok (.return_, 1)) (hr : rt = none) : k_J G l y cc mL rt d h0 h pc lv [] h (.inl none) :=
  ⟨Nat.le_refl _, Nat.le_refl _, fun p e s m args below meth c C ht H locs k n ls hp hl hk hn hv => by
    rw [k_cnt hk, k_cnt hn]
    exact vx_ret (W.vret C.1 C.2.1 (C.2.2.1.trans hr) (fun t ht9 hW => ⟨_, rfl, rfl, by rw [ht9]; exact hp⟩) hl hdg C.2.2.2.2.2.2.1)⟩
theorem j_aret {x : Option Nat} {t0 : FieldType} (hdg : decode cc pc = .ok (.areturn, 1)) (hr : rt = some t0) (ht0 : (∃ n, t0 = .object n) ∨ ∃ t, t0 = .array t) : k_J G l y cc mL rt d h0 h pc lv [vR x] h (.inl (some (vR x))) :=
  ⟨Nat.le_refl _, Nat.le_refl _, fun p e s m args below meth c C ht H locs k n ls hp hl hk hn hv => by
    rw [k_cnt hk, k_cnt hn]
    exact vx_ret (W.aret (v := k_v (vR x)) C.1 C.2.1 (C.2.2.1.trans hr) ht0 (by cases x; exact Or.inl rfl; exact Or.inr ⟨_, rfl⟩) (fun t ht9 hW => ⟨_, rfl, rfl, by rw [ht9]; exact hp⟩) hl hdg C.2.2.2.2.2.2.1)⟩
end KJA
