section
/-! A ROW FOR EACH INSTRUCTION, over the pure world -/
section KJ
variable {G : k_G} {l : Launch} {y : MethodName} {cc : ByteArray} {mL : Nat} {rt : Option FieldType} {d : Nat} {h0 h h' : k_H} {pc : Nat} {lv : k_L} {st : List k_V} {r : k_R}
theorem k_E.K {G : k_G} {s : State} (h : k_E G s) : va_K (k_D G) vwCl (k_tys G) s := h.1

theorem j_iconst {n0 : Int} {v : Int32} (hdg : decode cc pc = .ok (.iconst n0, 1)) (hc : Int32.ofInt n0 = v) (K : k_J G l y cc mL rt d h0 h (pc + 1) lv (vI v :: st) h' r) : k_J G l y cc mL rt d h0 h pc lv (st) h' r :=
  ⟨K.1, K.2.1, fun p e s m args below meth c C ht H locs k n ls hp hl hk hn hv => lv_iconst C.1 C.2.1 hdg hc (K.2.2 p e s m args below meth c C ht H locs k n ls hp hl hk hn hv)⟩
theorem j_bipush {n0 : Int} {v : Int32} (hdg : decode cc pc = .ok (.bipush n0, 2)) (hc : (Int8.ofInt n0).toInt32 = v) (K : k_J G l y cc mL rt d h0 h (pc + 2) lv (vI v :: st) h' r) : k_J G l y cc mL rt d h0 h pc lv (st) h' r :=
  ⟨K.1, K.2.1, fun p e s m args below meth c C ht H locs k n ls hp hl hk hn hv => lv_bipush C.1 C.2.1 hdg hc (K.2.2 p e s m args below meth c C ht H locs k n ls hp hl hk hn hv)⟩
theorem j_sipush {n0 : Int} {v : Int32} (hdg : decode cc pc = .ok (.sipush n0, 3)) (hc : (Int16.ofInt n0).toInt32 = v) (K : k_J G l y cc mL rt d h0 h (pc + 3) lv (vI v :: st) h' r) : k_J G l y cc mL rt d h0 h pc lv (st) h' r :=
  ⟨K.1, K.2.1, fun p e s m args below meth c C ht H locs k n ls hp hl hk hn hv => lv_sipush C.1 C.2.1 hdg hc (K.2.2 p e s m args below meth c C ht H locs k n ls hp hl hk hn hv)⟩
theorem j_lconst {n0 : Fin 2} {v : Int64} (hdg : decode cc pc = .ok (.lconst n0, 1)) (hc : Int64.ofNat (n0 : Nat) = v) (K : k_J G l y cc mL rt d h0 h (pc + 1) lv (vJ v :: st) h' r) : k_J G l y cc mL rt d h0 h pc lv (st) h' r :=
  ⟨K.1, K.2.1, fun p e s m args below meth c C ht H locs k n ls hp hl hk hn hv => lv_lconst C.1 C.2.1 hdg hc (K.2.2 p e s m args below meth c C ht H locs k n ls hp hl hk hn hv)⟩
theorem j_null  (hdg : decode cc pc = .ok (.aconst_null, 1))  (K : k_J G l y cc mL rt d h0 h (pc + 1) lv (vR none :: st) h' r) : k_J G l y cc mL rt d h0 h pc lv (st) h' r :=
  ⟨K.1, K.2.1, fun p e s m args below meth c C ht H locs k n ls hp hl hk hn hv => lv_null C.1 C.2.1 hdg (K.2.2 p e s m args below meth c C ht H locs k n ls hp hl hk hn hv)⟩
theorem j_iload_n {k0 : Fin 4} {i : Nat} {x : Int32} (hdg : decode cc pc = .ok (.iload_n k0, 1)) (hi : (k0 : Nat) = i) (hx : lv.lookup i = some (vI x)) (K : k_J G l y cc mL rt d h0 h (pc + 1) lv (vI x :: st) h' r) : k_J G l y cc mL rt d h0 h pc lv (st) h' r :=
  ⟨K.1, K.2.1, fun p e s m args below meth c C ht H locs k n ls hp hl hk hn hv => lv_iload_n C.1 C.2.1 hdg hi (k_lk hv hx) (K.2.2 p e s m args below meth c C ht H locs k n ls hp hl hk hn hv)⟩
theorem j_iload {i : Nat} {x : Int32} (hdg : decode cc pc = .ok (.iload i, 2)) (hx : lv.lookup i = some (vI x)) (K : k_J G l y cc mL rt d h0 h (pc + 2) lv (vI x :: st) h' r) : k_J G l y cc mL rt d h0 h pc lv (st) h' r :=
  ⟨K.1, K.2.1, fun p e s m args below meth c C ht H locs k n ls hp hl hk hn hv => lv_iload C.1 C.2.1 hdg (k_lk hv hx) (K.2.2 p e s m args below meth c C ht H locs k n ls hp hl hk hn hv)⟩
theorem j_lload_n {k0 : Fin 4} {i : Nat} {x : Int64} (hdg : decode cc pc = .ok (.lload_n k0, 1)) (hi : (k0 : Nat) = i) (hx : lv.lookup i = some (vJ x)) (K : k_J G l y cc mL rt d h0 h (pc + 1) lv (vJ x :: st) h' r) : k_J G l y cc mL rt d h0 h pc lv (st) h' r :=
  ⟨K.1, K.2.1, fun p e s m args below meth c C ht H locs k n ls hp hl hk hn hv => lv_lload_n C.1 C.2.1 hdg hi (k_lk hv hx) (K.2.2 p e s m args below meth c C ht H locs k n ls hp hl hk hn hv)⟩
theorem j_lload {i : Nat} {x : Int64} (hdg : decode cc pc = .ok (.lload i, 2)) (hx : lv.lookup i = some (vJ x)) (K : k_J G l y cc mL rt d h0 h (pc + 2) lv (vJ x :: st) h' r) : k_J G l y cc mL rt d h0 h pc lv (st) h' r :=
  ⟨K.1, K.2.1, fun p e s m args below meth c C ht H locs k n ls hp hl hk hn hv => lv_lload C.1 C.2.1 hdg (k_lk hv hx) (K.2.2 p e s m args below meth c C ht H locs k n ls hp hl hk hn hv)⟩
theorem j_aload_n {k0 : Fin 4} {i : Nat} {x : Option Nat} (hdg : decode cc pc = .ok (.aload_n k0, 1)) (hi : (k0 : Nat) = i) (hx : lv.lookup i = some (vR x)) (K : k_J G l y cc mL rt d h0 h (pc + 1) lv (vR x :: st) h' r) : k_J G l y cc mL rt d h0 h pc lv st h' r := by
  refine ⟨K.1, K.2.1, fun p e s m args below meth c C ht H locs k n ls hp hl hk hn hv => ?_⟩
  have K9 := K.2.2 p e s m args below meth c C ht H locs k n ls hp hl hk hn hv
  cases x with
  | none => exact lv_aload_nN C.1 C.2.1 hdg hi (k_lk hv hx) K9
  | some a => exact lv_aload_n C.1 C.2.1 hdg hi (k_lk hv hx) K9
theorem j_aload {i : Nat} {x : Option Nat} (hdg : decode cc pc = .ok (.aload i, 2))  (hx : lv.lookup i = some (vR x)) (K : k_J G l y cc mL rt d h0 h (pc + 2) lv (vR x :: st) h' r) : k_J G l y cc mL rt d h0 h pc lv st h' r := by
  refine ⟨K.1, K.2.1, fun p e s m args below meth c C ht H locs k n ls hp hl hk hn hv => ?_⟩
  have K9 := K.2.2 p e s m args below meth c C ht H locs k n ls hp hl hk hn hv
  cases x with
  | none => exact lv_aloadN C.1 C.2.1 hdg (k_lk hv hx) K9
  | some a => exact lv_aload C.1 C.2.1 hdg (k_lk hv hx) K9
theorem j_istore_n {k0 : Fin 4} {i : Nat} {x : Int32} {lv9 : k_L} (hdg : decode cc pc = .ok (.istore_n k0, 1)) (hi : (k0 : Nat) = i) (hb : i < mL) (hl9 : k_st1 lv i (vI x) = lv9) (K : k_J G l y cc mL rt d h0 h (pc + 1) lv9 st h' r) : k_J G l y cc mL rt d h0 h pc lv (vI x :: st) h' r := by
  subst hl9
  exact ⟨K.1, K.2.1, fun p e s m args below meth c C ht H locs k n ls hp hl hk hn hv => lv_istore_n C.1 C.2.1 hdg hi hv hb rfl (fun ls9 hv9 => K.2.2 p e s m args below meth c C ht H locs k n ls9 hp hl hk hn (lv_mono hv9 (k_st1_sub lv i _)))⟩
theorem j_istore {i : Nat} {x : Int32} {lv9 : k_L} (hdg : decode cc pc = .ok (.istore i, 2))  (hb : i < mL) (hl9 : k_st1 lv i (vI x) = lv9) (K : k_J G l y cc mL rt d h0 h (pc + 2) lv9 st h' r) : k_J G l y cc mL rt d h0 h pc lv (vI x :: st) h' r := by
  subst hl9
  exact ⟨K.1, K.2.1, fun p e s m args below meth c C ht H locs k n ls hp hl hk hn hv => lv_istore C.1 C.2.1 hdg hv hb rfl (fun ls9 hv9 => K.2.2 p e s m args below meth c C ht H locs k n ls9 hp hl hk hn (lv_mono hv9 (k_st1_sub lv i _)))⟩
theorem j_lstore_n {k0 : Fin 4} {i : Nat} {x : Int64} {lv9 : k_L} (hdg : decode cc pc = .ok (.lstore_n k0, 1)) (hi : (k0 : Nat) = i) (hb : i + 1 < mL) (hl9 : k_st2 lv i (vJ x) = lv9) (K : k_J G l y cc mL rt d h0 h (pc + 1) lv9 st h' r) : k_J G l y cc mL rt d h0 h pc lv (vJ x :: st) h' r := by
  subst hl9
  exact ⟨K.1, K.2.1, fun p e s m args below meth c C ht H locs k n ls hp hl hk hn hv => lv_lstore_n C.1 C.2.1 hdg hi hv hb rfl (fun ls9 hv9 => K.2.2 p e s m args below meth c C ht H locs k n ls9 hp hl hk hn (lv_mono hv9 (k_st2_sub lv i _)))⟩
theorem j_lstore {i : Nat} {x : Int64} {lv9 : k_L} (hdg : decode cc pc = .ok (.lstore i, 2))  (hb : i + 1 < mL) (hl9 : k_st2 lv i (vJ x) = lv9) (K : k_J G l y cc mL rt d h0 h (pc + 2) lv9 st h' r) : k_J G l y cc mL rt d h0 h pc lv (vJ x :: st) h' r := by
  subst hl9
  exact ⟨K.1, K.2.1, fun p e s m args below meth c C ht H locs k n ls hp hl hk hn hv => lv_lstore C.1 C.2.1 hdg hv hb rfl (fun ls9 hv9 => K.2.2 p e s m args below meth c C ht H locs k n ls9 hp hl hk hn (lv_mono hv9 (k_st2_sub lv i _)))⟩
theorem j_astore_n {k0 : Fin 4} {i : Nat} {x : Option Nat} {lv9 : k_L} (hdg : decode cc pc = .ok (.astore_n k0, 1)) (hi : (k0 : Nat) = i) (hb : i < mL) (hl9 : k_st1 lv i (vR x) = lv9) (K : k_J G l y cc mL rt d h0 h (pc + 1) lv9 st h' r) : k_J G l y cc mL rt d h0 h pc lv (vR x :: st) h' r := by
  subst hl9
  refine ⟨K.1, K.2.1, fun p e s m args below meth c C ht H locs k n ls hp hl hk hn hv => ?_⟩
  cases x with
  | none => exact lv_astore_nN C.1 C.2.1 hdg hi hv hb rfl (fun ls9 hv9 => K.2.2 p e s m args below meth c C ht H locs k n ls9 hp hl hk hn (lv_mono hv9 (k_st1_sub lv i _)))
  | some a => exact lv_astore_n C.1 C.2.1 hdg hi hv hb rfl (fun ls9 hv9 => K.2.2 p e s m args below meth c C ht H locs k n ls9 hp hl hk hn (lv_mono hv9 (k_st1_sub lv i _)))
theorem j_astore {i : Nat} {x : Option Nat} {lv9 : k_L} (hdg : decode cc pc = .ok (.astore i, 2))  (hb : i < mL) (hl9 : k_st1 lv i (vR x) = lv9) (K : k_J G l y cc mL rt d h0 h (pc + 2) lv9 st h' r) : k_J G l y cc mL rt d h0 h pc lv (vR x :: st) h' r := by
  subst hl9
  refine ⟨K.1, K.2.1, fun p e s m args below meth c C ht H locs k n ls hp hl hk hn hv => ?_⟩
  cases x with
  | none => exact lv_astoreN C.1 C.2.1 hdg hv hb rfl (fun ls9 hv9 => K.2.2 p e s m args below meth c C ht H locs k n ls9 hp hl hk hn (lv_mono hv9 (k_st1_sub lv i _)))
  | some a => exact lv_astore C.1 C.2.1 hdg hv hb rfl (fun ls9 hv9 => K.2.2 p e s m args below meth c C ht H locs k n ls9 hp hl hk hn (lv_mono hv9 (k_st1_sub lv i _)))
theorem k_lkm {lv : k_L} {i : Nat} {v : k_V} (h : lv.lookup i = some v) : ∃ k : Nat, (k_lm lv)[k]? = some (i, k_v v) := by
  induction lv with
  | nil => cases h
  | cons x t ih =>
    obtain ⟨a, b⟩ := x
    simp only [List.lookup] at h
    split at h
    · rename_i hh
      have : i = a := by simpa using hh
      subst this
      cases h
      exact ⟨0, rfl⟩
    · obtain ⟨k, hk⟩ := ih h
      exact ⟨k + 1, hk⟩
theorem j_iinc {i : Nat} {n0 : Int} {x v : Int32} {lv9 : k_L} (hdg : decode cc pc = .ok (.iinc i n0, 3)) (hx : lv.lookup i = some (vI x)) (hb : i < mL) (hc : x + Int32.ofInt n0 = v) (hl9 : k_st1 lv i (vI v) = lv9) (K : k_J G l y cc mL rt d h0 h (pc + 3) lv9 st h' r) : k_J G l y cc mL rt d h0 h pc lv st h' r := by
  subst hl9
  obtain ⟨k8, hk8⟩ := k_lkm hx
  exact ⟨K.1, K.2.1, fun p e s m args below meth c C ht H locs k n ls hp hl hk hn hv => lv_iinc C.1 C.2.1 hdg hv hk8 hc hb rfl (fun ls9 hv9 => K.2.2 p e s m args below meth c C ht H locs k n ls9 hp hl hk hn (lv_mono hv9 (k_st1_sub lv i _)))⟩
theorem j_iadd {x z : Int32} (hdg : decode cc pc = .ok (.iadd, 1))  (K : k_J G l y cc mL rt d h0 h (pc + 1) lv (vI (x + z) :: st) h' r) : k_J G l y cc mL rt d h0 h pc lv (vI z :: vI x :: st) h' r :=
  ⟨K.1, K.2.1, fun p e s m args below meth c C ht H locs k n ls hp hl hk hn hv => lv_iadd C.1 C.2.1 hdg (K.2.2 p e s m args below meth c C ht H locs k n ls hp hl hk hn hv)⟩
theorem j_isub {x z : Int32} (hdg : decode cc pc = .ok (.isub, 1))  (K : k_J G l y cc mL rt d h0 h (pc + 1) lv (vI (x - z) :: st) h' r) : k_J G l y cc mL rt d h0 h pc lv (vI z :: vI x :: st) h' r :=
  ⟨K.1, K.2.1, fun p e s m args below meth c C ht H locs k n ls hp hl hk hn hv => lv_isub C.1 C.2.1 hdg (K.2.2 p e s m args below meth c C ht H locs k n ls hp hl hk hn hv)⟩
theorem j_imul {x z : Int32} (hdg : decode cc pc = .ok (.imul, 1))  (K : k_J G l y cc mL rt d h0 h (pc + 1) lv (vI (x * z) :: st) h' r) : k_J G l y cc mL rt d h0 h pc lv (vI z :: vI x :: st) h' r :=
  ⟨K.1, K.2.1, fun p e s m args below meth c C ht H locs k n ls hp hl hk hn hv => lv_imul C.1 C.2.1 hdg (K.2.2 p e s m args below meth c C ht H locs k n ls hp hl hk hn hv)⟩
theorem j_iand {x z : Int32} (hdg : decode cc pc = .ok (.iand, 1))  (K : k_J G l y cc mL rt d h0 h (pc + 1) lv (vI (x &&& z) :: st) h' r) : k_J G l y cc mL rt d h0 h pc lv (vI z :: vI x :: st) h' r :=
  ⟨K.1, K.2.1, fun p e s m args below meth c C ht H locs k n ls hp hl hk hn hv => lv_iand C.1 C.2.1 hdg (K.2.2 p e s m args below meth c C ht H locs k n ls hp hl hk hn hv)⟩
theorem j_ior {x z : Int32} (hdg : decode cc pc = .ok (.ior, 1))  (K : k_J G l y cc mL rt d h0 h (pc + 1) lv (vI (x ||| z) :: st) h' r) : k_J G l y cc mL rt d h0 h pc lv (vI z :: vI x :: st) h' r :=
  ⟨K.1, K.2.1, fun p e s m args below meth c C ht H locs k n ls hp hl hk hn hv => lv_ior C.1 C.2.1 hdg (K.2.2 p e s m args below meth c C ht H locs k n ls hp hl hk hn hv)⟩
theorem j_ishl {x z : Int32} (hdg : decode cc pc = .ok (.ishl, 1))  (K : k_J G l y cc mL rt d h0 h (pc + 1) lv (vI (x <<< (z &&& 31)) :: st) h' r) : k_J G l y cc mL rt d h0 h pc lv (vI z :: vI x :: st) h' r :=
  ⟨K.1, K.2.1, fun p e s m args below meth c C ht H locs k n ls hp hl hk hn hv => lv_ishl C.1 C.2.1 hdg (K.2.2 p e s m args below meth c C ht H locs k n ls hp hl hk hn hv)⟩
theorem j_idiv {x z : Int32} (hdg : decode cc pc = .ok (.idiv, 1)) (hne : ¬ z = 0) (K : k_J G l y cc mL rt d h0 h (pc + 1) lv (vI (x / z) :: st) h' r) : k_J G l y cc mL rt d h0 h pc lv (vI z :: vI x :: st) h' r :=
  ⟨K.1, K.2.1, fun p e s m args below meth c C ht H locs k n ls hp hl hk hn hv => lv_idiv C.1 C.2.1 hdg hne (K.2.2 p e s m args below meth c C ht H locs k n ls hp hl hk hn hv)⟩
theorem j_irem {x z : Int32} (hdg : decode cc pc = .ok (.irem, 1)) (hne : ¬ z = 0) (K : k_J G l y cc mL rt d h0 h (pc + 1) lv (vI (x - (x / z) * z) :: st) h' r) : k_J G l y cc mL rt d h0 h pc lv (vI z :: vI x :: st) h' r :=
  ⟨K.1, K.2.1, fun p e s m args below meth c C ht H locs k n ls hp hl hk hn hv => lv_irem C.1 C.2.1 hdg hne (K.2.2 p e s m args below meth c C ht H locs k n ls hp hl hk hn hv)⟩
theorem j_ladd {x z : Int64} (hdg : decode cc pc = .ok (.ladd, 1))  (K : k_J G l y cc mL rt d h0 h (pc + 1) lv (vJ (x + z) :: st) h' r) : k_J G l y cc mL rt d h0 h pc lv (vJ z :: vJ x :: st) h' r :=
  ⟨K.1, K.2.1, fun p e s m args below meth c C ht H locs k n ls hp hl hk hn hv => lv_ladd C.1 C.2.1 hdg (K.2.2 p e s m args below meth c C ht H locs k n ls hp hl hk hn hv)⟩
theorem j_lsub {x z : Int64} (hdg : decode cc pc = .ok (.lsub, 1))  (K : k_J G l y cc mL rt d h0 h (pc + 1) lv (vJ (x - z) :: st) h' r) : k_J G l y cc mL rt d h0 h pc lv (vJ z :: vJ x :: st) h' r :=
  ⟨K.1, K.2.1, fun p e s m args below meth c C ht H locs k n ls hp hl hk hn hv => lv_lsub C.1 C.2.1 hdg (K.2.2 p e s m args below meth c C ht H locs k n ls hp hl hk hn hv)⟩
theorem j_lmul {x z : Int64} (hdg : decode cc pc = .ok (.lmul, 1))  (K : k_J G l y cc mL rt d h0 h (pc + 1) lv (vJ (x * z) :: st) h' r) : k_J G l y cc mL rt d h0 h pc lv (vJ z :: vJ x :: st) h' r :=
  ⟨K.1, K.2.1, fun p e s m args below meth c C ht H locs k n ls hp hl hk hn hv => lv_lmul C.1 C.2.1 hdg (K.2.2 p e s m args below meth c C ht H locs k n ls hp hl hk hn hv)⟩
theorem j_ldiv {x z : Int64} (hdg : decode cc pc = .ok (.ldiv, 1)) (hne : ¬ z = 0) (K : k_J G l y cc mL rt d h0 h (pc + 1) lv (vJ (x / z) :: st) h' r) : k_J G l y cc mL rt d h0 h pc lv (vJ z :: vJ x :: st) h' r :=
  ⟨K.1, K.2.1, fun p e s m args below meth c C ht H locs k n ls hp hl hk hn hv => lv_ldiv C.1 C.2.1 hdg hne (K.2.2 p e s m args below meth c C ht H locs k n ls hp hl hk hn hv)⟩
theorem j_lrem {x z : Int64} (hdg : decode cc pc = .ok (.lrem, 1)) (hne : ¬ z = 0) (K : k_J G l y cc mL rt d h0 h (pc + 1) lv (vJ (x - (x / z) * z) :: st) h' r) : k_J G l y cc mL rt d h0 h pc lv (vJ z :: vJ x :: st) h' r :=
  ⟨K.1, K.2.1, fun p e s m args below meth c C ht H locs k n ls hp hl hk hn hv => lv_lrem C.1 C.2.1 hdg hne (K.2.2 p e s m args below meth c C ht H locs k n ls hp hl hk hn hv)⟩
theorem j_iushr {x z : Int32} (hdg : decode cc pc = .ok (.iushr, 1))  (K : k_J G l y cc mL rt d h0 h (pc + 1) lv (vI ((x.toUInt32 >>> (z.toUInt32 &&& Int32.toUInt32 31)).toInt32) :: st) h' r) : k_J G l y cc mL rt d h0 h pc lv (vI z :: vI x :: st) h' r :=
  ⟨K.1, K.2.1, fun p e s m args below meth c C ht H locs k n ls hp hl hk hn hv => lv_iushr C.1 C.2.1 hdg rfl (K.2.2 p e s m args below meth c C ht H locs k n ls hp hl hk hn hv)⟩
theorem j_i2l {x : Int32} (hdg : decode cc pc = .ok (.i2l, 1))  (K : k_J G l y cc mL rt d h0 h (pc + 1) lv (vJ x.toInt64 :: st) h' r) : k_J G l y cc mL rt d h0 h pc lv (vI x :: st) h' r :=
  ⟨K.1, K.2.1, fun p e s m args below meth c C ht H locs k n ls hp hl hk hn hv => lv_i2l C.1 C.2.1 hdg rfl (K.2.2 p e s m args below meth c C ht H locs k n ls hp hl hk hn hv)⟩
theorem j_l2i {x : Int64} (hdg : decode cc pc = .ok (.l2i, 1))  (K : k_J G l y cc mL rt d h0 h (pc + 1) lv (vI x.toInt32 :: st) h' r) : k_J G l y cc mL rt d h0 h pc lv (vJ x :: st) h' r :=
  ⟨K.1, K.2.1, fun p e s m args below meth c C ht H locs k n ls hp hl hk hn hv => lv_l2i C.1 C.2.1 hdg rfl (K.2.2 p e s m args below meth c C ht H locs k n ls hp hl hk hn hv)⟩
theorem j_dup {v : k_V} (hdg : decode cc pc = .ok (.dup, 1)) (hv9 : k_cat v = 1) (K : k_J G l y cc mL rt d h0 h (pc + 1) lv (v :: v :: st) h' r) : k_J G l y cc mL rt d h0 h pc lv (v :: st) h' r :=
  ⟨K.1, K.2.1, fun p e s m args below meth c C ht H locs k n ls hp hl hk hn hv => lv_dup C.1 C.2.1 hdg (by rw [k_v_cat]; exact hv9) (K.2.2 p e s m args below meth c C ht H locs k n ls hp hl hk hn hv)⟩
theorem j_pop {v : k_V} (hdg : decode cc pc = .ok (.pop, 1)) (hv9 : k_cat v = 1) (K : k_J G l y cc mL rt d h0 h (pc + 1) lv (st) h' r) : k_J G l y cc mL rt d h0 h pc lv (v :: st) h' r :=
  ⟨K.1, K.2.1, fun p e s m args below meth c C ht H locs k n ls hp hl hk hn hv => lv_pop C.1 C.2.1 hdg (by rw [k_v_cat]; exact hv9) (K.2.2 p e s m args below meth c C ht H locs k n ls hp hl hk hn hv)⟩
theorem j_dup2 {v w : k_V} (hdg : decode cc pc = .ok (.dup2, 1)) (hv9 : k_cat v = 1) (hw9 : k_cat w = 1) (K : k_J G l y cc mL rt d h0 h (pc + 1) lv (v :: w :: v :: w :: st) h' r) : k_J G l y cc mL rt d h0 h pc lv (v :: w :: st) h' r :=
  ⟨K.1, K.2.1, fun p e s m args below meth c C ht H locs k n ls hp hl hk hn hv => lv_dup2_11 C.1 C.2.1 hdg (by rw [k_v_cat]; exact hv9) (by rw [k_v_cat]; exact hw9) (K.2.2 p e s m args below meth c C ht H locs k n ls hp hl hk hn hv)⟩
theorem j_dup_x1 {v w : k_V} (hdg : decode cc pc = .ok (.dup_x1, 1)) (hv9 : k_cat v = 1) (hw9 : k_cat w = 1) (K : k_J G l y cc mL rt d h0 h (pc + 1) lv (v :: w :: v :: st) h' r) : k_J G l y cc mL rt d h0 h pc lv (v :: w :: st) h' r :=
  ⟨K.1, K.2.1, fun p e s m args below meth c C ht H locs k n ls hp hl hk hn hv => lv_dup_x1 C.1 C.2.1 hdg (by rw [k_v_cat]; exact hv9) (by rw [k_v_cat]; exact hw9) (K.2.2 p e s m args below meth c C ht H locs k n ls hp hl hk hn hv)⟩
theorem j_lcmp {x z : Int64} (hdg : decode cc pc = .ok (.lcmp, 1))  (K : k_J G l y cc mL rt d h0 h (pc + 1) lv (vI (lg_cmp x z) :: st) h' r) : k_J G l y cc mL rt d h0 h pc lv (vJ z :: vJ x :: st) h' r :=
  ⟨K.1, K.2.1, fun p e s m args below meth c C ht H locs k n ls hp hl hk hn hv => W.lcmp C.1 C.2.1 hdg (K.2.2 p e s m args below meth c C ht H locs k n ls hp hl hk hn hv)⟩
theorem j_if_eq_t {x : Int32} {off : Int} {tgt : Nat} (hdg : decode cc pc = .ok (.ifCond .eq off, 3)) (ht9 : (pc : Int) + off = (tgt : Int)) (hc : x = 0) (K : k_J G l y cc mL rt d h0 h tgt lv st h' r) : k_J G l y cc mL rt d h0 h pc lv (vI x :: st) h' r :=
  ⟨K.1, K.2.1, fun p e s m args below meth c C ht H locs k n ls hp hl hk hn hv => lv_if_eq C.1 C.2.1 hdg ht9 (fun _ => (K.2.2 p e s m args below meth c C ht H locs k n ls hp hl hk hn hv)) (fun q => by first | exact absurd q hc | exact absurd hc q)⟩
theorem j_if_eq_f {x : Int32} {off : Int} (hdg : decode cc pc = .ok (.ifCond .eq off, 3)) (tgt : Nat) (ht9 : (pc : Int) + off = (tgt : Int)) (hc : ¬ x = 0) (K : k_J G l y cc mL rt d h0 h (pc + 3) lv st h' r) : k_J G l y cc mL rt d h0 h pc lv (vI x :: st) h' r :=
  ⟨K.1, K.2.1, fun p e s m args below meth c C ht H locs k n ls hp hl hk hn hv => lv_if_eq C.1 C.2.1 hdg ht9 (fun q => by first | exact absurd q hc | exact absurd hc q) (fun _ => (K.2.2 p e s m args below meth c C ht H locs k n ls hp hl hk hn hv))⟩
theorem j_icmp_eq_t {x z : Int32} {off : Int} {tgt : Nat} (hdg : decode cc pc = .ok (.if_icmp .eq off, 3)) (ht9 : (pc : Int) + off = (tgt : Int)) (hc : x = z) (K : k_J G l y cc mL rt d h0 h tgt lv st h' r) : k_J G l y cc mL rt d h0 h pc lv (vI z :: vI x :: st) h' r :=
  ⟨K.1, K.2.1, fun p e s m args below meth c C ht H locs k n ls hp hl hk hn hv => lv_icmp_eq C.1 C.2.1 hdg ht9 (fun _ => (K.2.2 p e s m args below meth c C ht H locs k n ls hp hl hk hn hv)) (fun q => by first | exact absurd q hc | exact absurd hc q)⟩
theorem j_icmp_eq_f {x z : Int32} {off : Int} (hdg : decode cc pc = .ok (.if_icmp .eq off, 3)) (tgt : Nat) (ht9 : (pc : Int) + off = (tgt : Int)) (hc : ¬ x = z) (K : k_J G l y cc mL rt d h0 h (pc + 3) lv st h' r) : k_J G l y cc mL rt d h0 h pc lv (vI z :: vI x :: st) h' r :=
  ⟨K.1, K.2.1, fun p e s m args below meth c C ht H locs k n ls hp hl hk hn hv => lv_icmp_eq C.1 C.2.1 hdg ht9 (fun q => by first | exact absurd q hc | exact absurd hc q) (fun _ => (K.2.2 p e s m args below meth c C ht H locs k n ls hp hl hk hn hv))⟩
theorem j_if_ne_t {x : Int32} {off : Int} {tgt : Nat} (hdg : decode cc pc = .ok (.ifCond .ne off, 3)) (ht9 : (pc : Int) + off = (tgt : Int)) (hc : ¬ x = 0) (K : k_J G l y cc mL rt d h0 h tgt lv st h' r) : k_J G l y cc mL rt d h0 h pc lv (vI x :: st) h' r :=
  ⟨K.1, K.2.1, fun p e s m args below meth c C ht H locs k n ls hp hl hk hn hv => lv_if_ne C.1 C.2.1 hdg ht9 (fun _ => (K.2.2 p e s m args below meth c C ht H locs k n ls hp hl hk hn hv)) (fun q => by first | exact absurd q hc | exact absurd hc q)⟩
theorem j_if_ne_f {x : Int32} {off : Int} (hdg : decode cc pc = .ok (.ifCond .ne off, 3)) (tgt : Nat) (ht9 : (pc : Int) + off = (tgt : Int)) (hc : x = 0) (K : k_J G l y cc mL rt d h0 h (pc + 3) lv st h' r) : k_J G l y cc mL rt d h0 h pc lv (vI x :: st) h' r :=
  ⟨K.1, K.2.1, fun p e s m args below meth c C ht H locs k n ls hp hl hk hn hv => lv_if_ne C.1 C.2.1 hdg ht9 (fun q => by first | exact absurd q hc | exact absurd hc q) (fun _ => (K.2.2 p e s m args below meth c C ht H locs k n ls hp hl hk hn hv))⟩
theorem j_icmp_ne_t {x z : Int32} {off : Int} {tgt : Nat} (hdg : decode cc pc = .ok (.if_icmp .ne off, 3)) (ht9 : (pc : Int) + off = (tgt : Int)) (hc : ¬ x = z) (K : k_J G l y cc mL rt d h0 h tgt lv st h' r) : k_J G l y cc mL rt d h0 h pc lv (vI z :: vI x :: st) h' r :=
  ⟨K.1, K.2.1, fun p e s m args below meth c C ht H locs k n ls hp hl hk hn hv => lv_icmp_ne C.1 C.2.1 hdg ht9 (fun _ => (K.2.2 p e s m args below meth c C ht H locs k n ls hp hl hk hn hv)) (fun q => by first | exact absurd q hc | exact absurd hc q)⟩
theorem j_icmp_ne_f {x z : Int32} {off : Int} (hdg : decode cc pc = .ok (.if_icmp .ne off, 3)) (tgt : Nat) (ht9 : (pc : Int) + off = (tgt : Int)) (hc : x = z) (K : k_J G l y cc mL rt d h0 h (pc + 3) lv st h' r) : k_J G l y cc mL rt d h0 h pc lv (vI z :: vI x :: st) h' r :=
  ⟨K.1, K.2.1, fun p e s m args below meth c C ht H locs k n ls hp hl hk hn hv => lv_icmp_ne C.1 C.2.1 hdg ht9 (fun q => by first | exact absurd q hc | exact absurd hc q) (fun _ => (K.2.2 p e s m args below meth c C ht H locs k n ls hp hl hk hn hv))⟩
theorem j_if_lt_t {x : Int32} {off : Int} {tgt : Nat} (hdg : decode cc pc = .ok (.ifCond .lt off, 3)) (ht9 : (pc : Int) + off = (tgt : Int)) (hc : x < 0) (K : k_J G l y cc mL rt d h0 h tgt lv st h' r) : k_J G l y cc mL rt d h0 h pc lv (vI x :: st) h' r :=
  ⟨K.1, K.2.1, fun p e s m args below meth c C ht H locs k n ls hp hl hk hn hv => lv_if_lt C.1 C.2.1 hdg ht9 (fun _ => (K.2.2 p e s m args below meth c C ht H locs k n ls hp hl hk hn hv)) (fun q => by first | exact absurd q hc | exact absurd hc q)⟩
theorem j_if_lt_f {x : Int32} {off : Int} (hdg : decode cc pc = .ok (.ifCond .lt off, 3)) (tgt : Nat) (ht9 : (pc : Int) + off = (tgt : Int)) (hc : ¬ x < 0) (K : k_J G l y cc mL rt d h0 h (pc + 3) lv st h' r) : k_J G l y cc mL rt d h0 h pc lv (vI x :: st) h' r :=
  ⟨K.1, K.2.1, fun p e s m args below meth c C ht H locs k n ls hp hl hk hn hv => lv_if_lt C.1 C.2.1 hdg ht9 (fun q => by first | exact absurd q hc | exact absurd hc q) (fun _ => (K.2.2 p e s m args below meth c C ht H locs k n ls hp hl hk hn hv))⟩
theorem j_icmp_lt_t {x z : Int32} {off : Int} {tgt : Nat} (hdg : decode cc pc = .ok (.if_icmp .lt off, 3)) (ht9 : (pc : Int) + off = (tgt : Int)) (hc : x < z) (K : k_J G l y cc mL rt d h0 h tgt lv st h' r) : k_J G l y cc mL rt d h0 h pc lv (vI z :: vI x :: st) h' r :=
  ⟨K.1, K.2.1, fun p e s m args below meth c C ht H locs k n ls hp hl hk hn hv => lv_icmp_lt C.1 C.2.1 hdg ht9 (fun _ => (K.2.2 p e s m args below meth c C ht H locs k n ls hp hl hk hn hv)) (fun q => by first | exact absurd q hc | exact absurd hc q)⟩
theorem j_icmp_lt_f {x z : Int32} {off : Int} (hdg : decode cc pc = .ok (.if_icmp .lt off, 3)) (tgt : Nat) (ht9 : (pc : Int) + off = (tgt : Int)) (hc : ¬ x < z) (K : k_J G l y cc mL rt d h0 h (pc + 3) lv st h' r) : k_J G l y cc mL rt d h0 h pc lv (vI z :: vI x :: st) h' r :=
  ⟨K.1, K.2.1, fun p e s m args below meth c C ht H locs k n ls hp hl hk hn hv => lv_icmp_lt C.1 C.2.1 hdg ht9 (fun q => by first | exact absurd q hc | exact absurd hc q) (fun _ => (K.2.2 p e s m args below meth c C ht H locs k n ls hp hl hk hn hv))⟩
theorem j_if_ge_t {x : Int32} {off : Int} {tgt : Nat} (hdg : decode cc pc = .ok (.ifCond .ge off, 3)) (ht9 : (pc : Int) + off = (tgt : Int)) (hc : 0 ≤ x) (K : k_J G l y cc mL rt d h0 h tgt lv st h' r) : k_J G l y cc mL rt d h0 h pc lv (vI x :: st) h' r :=
  ⟨K.1, K.2.1, fun p e s m args below meth c C ht H locs k n ls hp hl hk hn hv => lv_if_ge C.1 C.2.1 hdg ht9 (fun _ => (K.2.2 p e s m args below meth c C ht H locs k n ls hp hl hk hn hv)) (fun q => by first | exact absurd q hc | exact absurd hc q)⟩
theorem j_if_ge_f {x : Int32} {off : Int} (hdg : decode cc pc = .ok (.ifCond .ge off, 3)) (tgt : Nat) (ht9 : (pc : Int) + off = (tgt : Int)) (hc : ¬ 0 ≤ x) (K : k_J G l y cc mL rt d h0 h (pc + 3) lv st h' r) : k_J G l y cc mL rt d h0 h pc lv (vI x :: st) h' r :=
  ⟨K.1, K.2.1, fun p e s m args below meth c C ht H locs k n ls hp hl hk hn hv => lv_if_ge C.1 C.2.1 hdg ht9 (fun q => by first | exact absurd q hc | exact absurd hc q) (fun _ => (K.2.2 p e s m args below meth c C ht H locs k n ls hp hl hk hn hv))⟩
theorem j_icmp_ge_t {x z : Int32} {off : Int} {tgt : Nat} (hdg : decode cc pc = .ok (.if_icmp .ge off, 3)) (ht9 : (pc : Int) + off = (tgt : Int)) (hc : z ≤ x) (K : k_J G l y cc mL rt d h0 h tgt lv st h' r) : k_J G l y cc mL rt d h0 h pc lv (vI z :: vI x :: st) h' r :=
  ⟨K.1, K.2.1, fun p e s m args below meth c C ht H locs k n ls hp hl hk hn hv => lv_icmp_ge C.1 C.2.1 hdg ht9 (fun _ => (K.2.2 p e s m args below meth c C ht H locs k n ls hp hl hk hn hv)) (fun q => by first | exact absurd q hc | exact absurd hc q)⟩
theorem j_icmp_ge_f {x z : Int32} {off : Int} (hdg : decode cc pc = .ok (.if_icmp .ge off, 3)) (tgt : Nat) (ht9 : (pc : Int) + off = (tgt : Int)) (hc : ¬ z ≤ x) (K : k_J G l y cc mL rt d h0 h (pc + 3) lv st h' r) : k_J G l y cc mL rt d h0 h pc lv (vI z :: vI x :: st) h' r :=
  ⟨K.1, K.2.1, fun p e s m args below meth c C ht H locs k n ls hp hl hk hn hv => lv_icmp_ge C.1 C.2.1 hdg ht9 (fun q => by first | exact absurd q hc | exact absurd hc q) (fun _ => (K.2.2 p e s m args below meth c C ht H locs k n ls hp hl hk hn hv))⟩
theorem j_if_gt_t {x : Int32} {off : Int} {tgt : Nat} (hdg : decode cc pc = .ok (.ifCond .gt off, 3)) (ht9 : (pc : Int) + off = (tgt : Int)) (hc : 0 < x) (K : k_J G l y cc mL rt d h0 h tgt lv st h' r) : k_J G l y cc mL rt d h0 h pc lv (vI x :: st) h' r :=
  ⟨K.1, K.2.1, fun p e s m args below meth c C ht H locs k n ls hp hl hk hn hv => lv_if_gt C.1 C.2.1 hdg ht9 (fun _ => (K.2.2 p e s m args below meth c C ht H locs k n ls hp hl hk hn hv)) (fun q => by first | exact absurd q hc | exact absurd hc q)⟩
theorem j_if_gt_f {x : Int32} {off : Int} (hdg : decode cc pc = .ok (.ifCond .gt off, 3)) (tgt : Nat) (ht9 : (pc : Int) + off = (tgt : Int)) (hc : ¬ 0 < x) (K : k_J G l y cc mL rt d h0 h (pc + 3) lv st h' r) : k_J G l y cc mL rt d h0 h pc lv (vI x :: st) h' r :=
  ⟨K.1, K.2.1, fun p e s m args below meth c C ht H locs k n ls hp hl hk hn hv => lv_if_gt C.1 C.2.1 hdg ht9 (fun q => by first | exact absurd q hc | exact absurd hc q) (fun _ => (K.2.2 p e s m args below meth c C ht H locs k n ls hp hl hk hn hv))⟩
theorem j_icmp_gt_t {x z : Int32} {off : Int} {tgt : Nat} (hdg : decode cc pc = .ok (.if_icmp .gt off, 3)) (ht9 : (pc : Int) + off = (tgt : Int)) (hc : z < x) (K : k_J G l y cc mL rt d h0 h tgt lv st h' r) : k_J G l y cc mL rt d h0 h pc lv (vI z :: vI x :: st) h' r :=
  ⟨K.1, K.2.1, fun p e s m args below meth c C ht H locs k n ls hp hl hk hn hv => lv_icmp_gt C.1 C.2.1 hdg ht9 (fun _ => (K.2.2 p e s m args below meth c C ht H locs k n ls hp hl hk hn hv)) (fun q => by first | exact absurd q hc | exact absurd hc q)⟩
theorem j_icmp_gt_f {x z : Int32} {off : Int} (hdg : decode cc pc = .ok (.if_icmp .gt off, 3)) (tgt : Nat) (ht9 : (pc : Int) + off = (tgt : Int)) (hc : ¬ z < x) (K : k_J G l y cc mL rt d h0 h (pc + 3) lv st h' r) : k_J G l y cc mL rt d h0 h pc lv (vI z :: vI x :: st) h' r :=
  ⟨K.1, K.2.1, fun p e s m args below meth c C ht H locs k n ls hp hl hk hn hv => lv_icmp_gt C.1 C.2.1 hdg ht9 (fun q => by first | exact absurd q hc | exact absurd hc q) (fun _ => (K.2.2 p e s m args below meth c C ht H locs k n ls hp hl hk hn hv))⟩
theorem j_if_le_t {x : Int32} {off : Int} {tgt : Nat} (hdg : decode cc pc = .ok (.ifCond .le off, 3)) (ht9 : (pc : Int) + off = (tgt : Int)) (hc : x ≤ 0) (K : k_J G l y cc mL rt d h0 h tgt lv st h' r) : k_J G l y cc mL rt d h0 h pc lv (vI x :: st) h' r :=
  ⟨K.1, K.2.1, fun p e s m args below meth c C ht H locs k n ls hp hl hk hn hv => lv_if_le C.1 C.2.1 hdg ht9 (fun _ => (K.2.2 p e s m args below meth c C ht H locs k n ls hp hl hk hn hv)) (fun q => by first | exact absurd q hc | exact absurd hc q)⟩
theorem j_if_le_f {x : Int32} {off : Int} (hdg : decode cc pc = .ok (.ifCond .le off, 3)) (tgt : Nat) (ht9 : (pc : Int) + off = (tgt : Int)) (hc : ¬ x ≤ 0) (K : k_J G l y cc mL rt d h0 h (pc + 3) lv st h' r) : k_J G l y cc mL rt d h0 h pc lv (vI x :: st) h' r :=
  ⟨K.1, K.2.1, fun p e s m args below meth c C ht H locs k n ls hp hl hk hn hv => lv_if_le C.1 C.2.1 hdg ht9 (fun q => by first | exact absurd q hc | exact absurd hc q) (fun _ => (K.2.2 p e s m args below meth c C ht H locs k n ls hp hl hk hn hv))⟩
theorem j_icmp_le_t {x z : Int32} {off : Int} {tgt : Nat} (hdg : decode cc pc = .ok (.if_icmp .le off, 3)) (ht9 : (pc : Int) + off = (tgt : Int)) (hc : x ≤ z) (K : k_J G l y cc mL rt d h0 h tgt lv st h' r) : k_J G l y cc mL rt d h0 h pc lv (vI z :: vI x :: st) h' r :=
  ⟨K.1, K.2.1, fun p e s m args below meth c C ht H locs k n ls hp hl hk hn hv => lv_icmp_le C.1 C.2.1 hdg ht9 (fun _ => (K.2.2 p e s m args below meth c C ht H locs k n ls hp hl hk hn hv)) (fun q => by first | exact absurd q hc | exact absurd hc q)⟩
theorem j_icmp_le_f {x z : Int32} {off : Int} (hdg : decode cc pc = .ok (.if_icmp .le off, 3)) (tgt : Nat) (ht9 : (pc : Int) + off = (tgt : Int)) (hc : ¬ x ≤ z) (K : k_J G l y cc mL rt d h0 h (pc + 3) lv st h' r) : k_J G l y cc mL rt d h0 h pc lv (vI z :: vI x :: st) h' r :=
  ⟨K.1, K.2.1, fun p e s m args below meth c C ht H locs k n ls hp hl hk hn hv => lv_icmp_le C.1 C.2.1 hdg ht9 (fun q => by first | exact absurd q hc | exact absurd hc q) (fun _ => (K.2.2 p e s m args below meth c C ht H locs k n ls hp hl hk hn hv))⟩
theorem j_goto {off : Int} {tgt : Nat} (hdg : decode cc pc = .ok (.goto off, 3)) (ht9 : (pc : Int) + off = (tgt : Int)) (K : k_J G l y cc mL rt d h0 h tgt lv st h' r) : k_J G l y cc mL rt d h0 h pc lv st h' r :=
  ⟨K.1, K.2.1, fun p e s m args below meth c C ht H locs k n ls hp hl hk hn hv => lv_goto C.1 C.2.1 hdg ht9 (K.2.2 p e s m args below meth c C ht H locs k n ls hp hl hk hn hv)⟩
theorem j_ifnull_t {off : Int} {tgt : Nat} (hdg : decode cc pc = .ok (.ifnull off, 3)) (ht9 : (pc : Int) + off = (tgt : Int)) (K : k_J G l y cc mL rt d h0 h tgt lv st h' r) : k_J G l y cc mL rt d h0 h pc lv (vR none :: st) h' r :=
  ⟨K.1, K.2.1, fun p e s m args below meth c C ht H locs k n ls hp hl hk hn hv => lv_ifnullN C.1 C.2.1 hdg ht9 (K.2.2 p e s m args below meth c C ht H locs k n ls hp hl hk hn hv)⟩
theorem j_ifnull_f {off : Int} {a : Nat} (hdg : decode cc pc = .ok (.ifnull off, 3)) (K : k_J G l y cc mL rt d h0 h (pc + 3) lv st h' r) : k_J G l y cc mL rt d h0 h pc lv (vR (some a) :: st) h' r :=
  ⟨K.1, K.2.1, fun p e s m args below meth c C ht H locs k n ls hp hl hk hn hv => lv_ifnull C.1 C.2.1 hdg (K.2.2 p e s m args below meth c C ht H locs k n ls hp hl hk hn hv)⟩
theorem j_ifnonnull_t {off : Int} {tgt : Nat} {a : Nat} (hdg : decode cc pc = .ok (.ifnonnull off, 3)) (ht9 : (pc : Int) + off = (tgt : Int)) (K : k_J G l y cc mL rt d h0 h tgt lv st h' r) : k_J G l y cc mL rt d h0 h pc lv (vR (some a) :: st) h' r :=
  ⟨K.1, K.2.1, fun p e s m args below meth c C ht H locs k n ls hp hl hk hn hv => lv_ifnonnull C.1 C.2.1 hdg ht9 (K.2.2 p e s m args below meth c C ht H locs k n ls hp hl hk hn hv)⟩
theorem j_ifnonnull_f {off : Int} (hdg : decode cc pc = .ok (.ifnonnull off, 3)) (K : k_J G l y cc mL rt d h0 h (pc + 3) lv st h' r) : k_J G l y cc mL rt d h0 h pc lv (vR none :: st) h' r :=
  ⟨K.1, K.2.1, fun p e s m args below meth c C ht H locs k n ls hp hl hk hn hv => lv_ifnonnullN C.1 C.2.1 hdg (K.2.2 p e s m args below meth c C ht H locs k n ls hp hl hk hn hv)⟩
theorem j_acmp_eq_t {off : Int} {tgt : Nat} {x : Option Nat} (hdg : decode cc pc = .ok (.if_acmp .eq off, 3)) (ht9 : (pc : Int) + off = (tgt : Int)) (K : k_J G l y cc mL rt d h0 h tgt lv st h' r) : k_J G l y cc mL rt d h0 h pc lv (vR x :: vR x :: st) h' r := by
  refine ⟨K.1, K.2.1, fun p e s m args below meth c C ht H locs k n ls hp hl hk hn hv => ?_⟩
  show W _ _ _ _ _ _ _ _ _ _ _ _ _ _ _ (F0 m pc ls (k_v (vR x) :: k_v (vR x) :: st.map k_v))
  rw [k_v_rf]
  exact lv_acmp_eq C.1 C.2.1 hdg ht9 (fun _ => (K.2.2 p e s m args below meth c C ht H locs k n ls hp hl hk hn hv)) (fun q => absurd rfl q)
theorem j_acmp_eq_f {off : Int} {x z : Option Nat} (hdg : decode cc pc = .ok (.if_acmp .eq off, 3)) (tgt : Nat) (ht9 : (pc : Int) + off = (tgt : Int)) (hc : ¬ x = z) (K : k_J G l y cc mL rt d h0 h (pc + 3) lv st h' r) : k_J G l y cc mL rt d h0 h pc lv (vR z :: vR x :: st) h' r := by
  refine ⟨K.1, K.2.1, fun p e s m args below meth c C ht H locs k n ls hp hl hk hn hv => ?_⟩
  show W _ _ _ _ _ _ _ _ _ _ _ _ _ _ _ (F0 m pc ls (k_v (vR z) :: k_v (vR x) :: st.map k_v))
  rw [k_v_rf, k_v_rf]
  exact lv_acmp_eq C.1 C.2.1 hdg ht9 (fun q => absurd q hc) (fun _ => (K.2.2 p e s m args below meth c C ht H locs k n ls hp hl hk hn hv))
theorem j_acmp_ne_f {off : Int} {x : Option Nat} (hdg : decode cc pc = .ok (.if_acmp .ne off, 3)) (tgt : Nat) (ht9 : (pc : Int) + off = (tgt : Int)) (K : k_J G l y cc mL rt d h0 h (pc + 3) lv st h' r) : k_J G l y cc mL rt d h0 h pc lv (vR x :: vR x :: st) h' r := by
  refine ⟨K.1, K.2.1, fun p e s m args below meth c C ht H locs k n ls hp hl hk hn hv => ?_⟩
  show W _ _ _ _ _ _ _ _ _ _ _ _ _ _ _ (F0 m pc ls (k_v (vR x) :: k_v (vR x) :: st.map k_v))
  rw [k_v_rf]
  exact lv_acmp_ne C.1 C.2.1 hdg ht9 (fun q => absurd rfl q) (fun _ => (K.2.2 p e s m args below meth c C ht H locs k n ls hp hl hk hn hv))
theorem j_acmp_ne_t {off : Int} {tgt : Nat} {x z : Option Nat} (hdg : decode cc pc = .ok (.if_acmp .ne off, 3)) (ht9 : (pc : Int) + off = (tgt : Int)) (hc : ¬ x = z) (K : k_J G l y cc mL rt d h0 h tgt lv st h' r) : k_J G l y cc mL rt d h0 h pc lv (vR z :: vR x :: st) h' r := by
  refine ⟨K.1, K.2.1, fun p e s m args below meth c C ht H locs k n ls hp hl hk hn hv => ?_⟩
  show W _ _ _ _ _ _ _ _ _ _ _ _ _ _ _ (F0 m pc ls (k_v (vR z) :: k_v (vR x) :: st.map k_v))
  rw [k_v_rf, k_v_rf]
  exact lv_acmp_ne C.1 C.2.1 hdg ht9 (fun _ => (K.2.2 p e s m args below meth c C ht H locs k n ls hp hl hk hn hv)) (fun q => absurd q hc)
theorem j_tableOut {dflt lo hi : Int} {offs : Array Int} {len : Nat} {x : Int32} {tgt : Nat} (hdg : decode cc pc = .ok (.tableswitch dflt lo hi offs, len)) (hc : x.toInt < lo ∨ hi < x.toInt) (ht9 : (pc : Int) + dflt = (tgt : Int)) (K : k_J G l y cc mL rt d h0 h tgt lv st h' r) : k_J G l y cc mL rt d h0 h pc lv (vI x :: st) h' r :=
  ⟨K.1, K.2.1, fun p e s m args below meth c C ht H locs k n ls hp hl hk hn hv => lv_tableOut C.1 C.2.1 hdg hc ht9 (K.2.2 p e s m args below meth c C ht H locs k n ls hp hl hk hn hv)⟩
theorem j_tableIn {dflt lo hi : Int} {offs : Array Int} {len : Nat} {x : Int32} {off : Int} {tgt : Nat} (hdg : decode cc pc = .ok (.tableswitch dflt lo hi offs, len)) (h1 : ¬ x.toInt < lo) (h2 : ¬ hi < x.toInt) (ho : offs[(x.toInt - lo).toNat]? = some off) (ht9 : (pc : Int) + off = (tgt : Int)) (K : k_J G l y cc mL rt d h0 h tgt lv st h' r) : k_J G l y cc mL rt d h0 h pc lv (vI x :: st) h' r :=
  ⟨K.1, K.2.1, fun p e s m args below meth c C ht H locs k n ls hp hl hk hn hv => lv_tableIn C.1 C.2.1 hdg h1 h2 ho ht9 (K.2.2 p e s m args below meth c C ht H locs k n ls hp hl hk hn hv)⟩
theorem j_sub {lv9 : k_L} (hs : ∀ q ∈ lv9, q ∈ lv) (K : k_J G l y cc mL rt d h0 h pc lv9 st h' r) : k_J G l y cc mL rt d h0 h pc lv st h' r :=
  ⟨K.1, K.2.1, fun p e s m args below meth c C ht H locs k n ls hp hl hk hn hv => K.2.2 p e s m args below meth c C ht H locs k n ls hp hl hk hn (lv_mono hv (k_lm_sub hs))⟩
theorem j_pick (ks : List Nat) {lv9 : k_L} (hs : ks.filterMap (fun k => lv[k]?) = lv9) (K : k_J G l y cc mL rt d h0 h pc lv9 st h' r) : k_J G l y cc mL rt d h0 h pc lv st h' r := j_sub (fun q hq => by
  rw [← hs] at hq
  obtain ⟨k, -, hk⟩ := List.mem_filterMap.mp hq
  exact List.mem_of_getElem? hk) K

theorem j_ldc {i0 : Nat} {v : Int32} (hdg : decode cc pc = .ok (.ldc i0, 2)) (hw : Cond.constant y.cls i0 v ∈ k_tbl) (K : k_J G l y cc mL rt d h0 h (pc + 2) lv (vI v :: st) h' r) : k_J G l y cc mL rt d h0 h pc lv st h' r :=
  ⟨K.1, K.2.1, fun p e s m args below meth c C ht H locs k n ls hp hl hk hn hv => lv_ldc C.1 C.2.1 C.2.2.2.2.1 (C.2.2.2.2.2.1 _ hw) hdg (K.2.2 p e s m args below meth c C ht H locs k n ls hp hl hk hn hv)⟩
theorem j_ldcw {i0 : Nat} {v : Int32} (hdg : decode cc pc = .ok (.ldc_w i0, 3)) (hw : Cond.constant y.cls i0 v ∈ k_tbl) (K : k_J G l y cc mL rt d h0 h (pc + 3) lv (vI v :: st) h' r) : k_J G l y cc mL rt d h0 h pc lv st h' r :=
  ⟨K.1, K.2.1, fun p e s m args below meth c C ht H locs k n ls hp hl hk hn hv => lv_ldcw C.1 C.2.1 C.2.2.2.2.1 (C.2.2.2.2.2.1 _ hw) hdg (K.2.2 p e s m args below meth c C ht H locs k n ls hp hl hk hn hv)⟩
theorem j_ldc2 {i0 : Nat} {v : Int64} (hdg : decode cc pc = .ok (.ldc2_w i0, 3)) (hw : Cond.constantLong y.cls i0 v ∈ k_tbl) (K : k_J G l y cc mL rt d h0 h (pc + 3) lv (vJ v :: st) h' r) : k_J G l y cc mL rt d h0 h pc lv st h' r :=
  ⟨K.1, K.2.1, fun p e s m args below meth c C ht H locs k n ls hp hl hk hn hv => lv_ldc2 C.1 C.2.1 C.2.2.2.2.1 (C.2.2.2.2.2.1 _ hw) hdg (K.2.2 p e s m args below meth c C ht H locs k n ls hp hl hk hn hv)⟩
end KJ
end
