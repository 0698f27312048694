/-! CALLS, ENTRIES, THROWS -/
def k_cB (own : String) (idx : Nat) (y : MethodName) (cc : ByteArray) (mL : Nat) (rt : Option FieldType) (n : Nat) : Prop :=
  Cond.code y cc mL rt ∈ k_tbl ∧ Cond.initialized y.cls ∈ k_tbl ∧ (y.cls ≠ "java/lang/invoke/MethodHandle" ∧ y.cls ≠ "java/lang/invoke/VarHandle") ∧ (parseMethodDescriptor y.desc).map (fun d => d.parameters.length) = some n ∧ mL ≤ 21 ∧ Cond.methodLink own idx y ∈ k_tbl
/-- a virtual call (or a private one of its own) -/
def k_cV (own : String) (idx ci : Nat) (y : MethodName) (cc : ByteArray) (mL : Nat) (rt : Option FieldType) (n : Nat) : Prop :=
  k_cB own idx y cc mL rt n ∧ Cond.instanceMethod y ∈ k_tbl ∧ Cond.selects y.cls y y ∈ k_tbl ∧ ∃ (T : u_T) (N : Nat), vwCl[ci]? = some (y.cls, T, N)
def k_cS (own : String) (idx : Nat) (y : MethodName) (cc : ByteArray) (mL : Nat) (rt : Option FieldType) (n : Nat) : Prop :=
  k_cB own idx y cc mL rt n ∧ Cond.static y ∈ k_tbl
def k_cC (own : String) (idx : Nat) (y : MethodName) (cc : ByteArray) (mL : Nat) (n : Nat) : Prop :=
  k_cB own idx y cc mL none n ∧ y.name = "<init>" ∧ Cond.instanceMethod y ∈ k_tbl
/-- .. of a nest mate's private method -/
def k_cN (own : String) (idx : Nat) (y : MethodName) (host : String) (cc : ByteArray) (mL : Nat) (rt : Option FieldType) (n : Nat) : Prop :=
  (own, idx, y, host) ∈ k_nests ∧ Cond.code y cc mL rt ∈ k_tbl ∧ Cond.initialized y.cls ∈ k_tbl ∧ (y.cls ≠ "java/lang/invoke/MethodHandle" ∧ y.cls ≠ "java/lang/invoke/VarHandle") ∧ (parseMethodDescriptor y.desc).map (fun d => d.parameters.length) = some n ∧ mL ≤ 21
/-- the receiver's cell is of class ci -/
def k_is (h : k_H) (b ci : Nat) : Prop := (∃ fs, h.1 b = some (k_o ci fs)) ∨ (ci = 2 ∧ ∃ xs cap, h.1 b = some (k_l xs cap))
theorem k_is_o {h : k_H} {b ci : Nat} {fs : List k_V} (e : h.1 b = some (k_o ci fs)) : k_is h b ci := Or.inl ⟨fs, e⟩
theorem k_is_l {h : k_H} {b cap : Nat} {xs : List Nat} (e : h.1 b = some (k_l xs cap)) : k_is h b 2 := Or.inr ⟨rfl, xs, cap, e⟩
theorem k_recv {G : k_G} {s : State} {h : k_H} {H : Heap} {b ci : Nat} {q : vw_C} (hE : k_E G s) (hp : k_hp G h H) (hi : k_is h b ci) (hc : vwCl[ci]? = some q) : ∃ cell : Cell, H[b]? = some cell ∧ cell.vm.isStatics = false ∧ s.vm.findClass q.1 = some cell.cls := by
  rcases hi with ⟨fs, ho⟩ | ⟨rfl, xs, cap, ho⟩
  · exact va_recv hE.K (k_P1 (k_hp_cell hp ho)) hc (q0 := 0) rfl
  · obtain ⟨md, t, h1⟩ := k_hp_l hp ho
    exact va_recv hE.K (k_P1 h1) hc (q0 := 0) rfl
theorem k_payAll {args : Array Value} {s : State} {y : Cond} (hts : ∀ w ∈ k_tbl, w.before args s = true) (h : y ∈ k_tbl) : ∀ w ∈ y :: k_tbl, ∀ (a' : Array Value) (U : State), s.WarmedH U.vm → w.before a' U = true :=
  pay_in hts (fun w hw => (List.mem_cons.mp hw).elim (fun e => by subst e; exact ⟨h, k_good_tbl _ h⟩) (fun e => ⟨e, k_good_tbl _ e⟩))
section KC
variable {G : k_G} {l : Launch} {y : MethodName} {cc : ByteArray} {mL : Nat} {rt : Option FieldType} {d : Nat} {h0 h h' : k_H} {pc : Nat} {lv : k_L} {st : List k_V} {r : k_R}
theorem k_met {y : MethodName} {as : List k_V} {h1 : k_H} {v : Option k_V} (C : k_Ct G l y cc mL rt d as h h1 (.inl v)) : Met l y (.code y cc mL rt :: k_tbl) (k_rm d h h1) (k_Pc G as h) (k_Q G h1 (.inl v)) (h1.2.1 - h.2.1) (h1.2.2 - h.2.2) (k_we G) := by
  refine MetFree.mono C.2.2 (fun _ _ h => h) (fun _ _ _ _ _ h => h) (fun a s o s' _ hq => ?_)
  rcases hq with hq | ⟨q, -, E, ce, L, hx, -⟩
  · exact hq
  · cases hx.1
theorem k_cbOf {args : Array Value} {s : State} {own : String} {idx n d' : Nat} {y' : MethodName} {cc' : ByteArray} {mL' : Nat} {rt' : Option FieldType} {h1 : k_H} (hts : ∀ w ∈ k_tbl, w.before args s = true) (hc : k_cB own idx y' cc' mL' rt' n) (hd : d' + 1 ≤ d) : CallB (k_rm d h0 h') s args own idx y' cc' mL' rt' (.code y' cc' mL' rt' :: k_tbl) (k_rm d' h h1) (h1.2.1 - h.2.1) (h1.2.2 - h.2.2) n := by
  obtain ⟨c1, c2, c3, c4, c5, c6⟩ := hc
  refine ⟨rfl, rfl, hd, by show 8 + (mL' + 11) + 40 * d' ≤ 40 * d; omega, k_payAll hts c1, List.mem_cons_self, hts _ c1, hts _ c2, c3, fun sig h => ?_, hts _ c6⟩
  rw [h] at c4
  exact (Option.some.inj c4).symm
theorem k_cont {p : Program} {e : Env} {R : Room} {s : State} {m : MethodId} {args a : Array Value} {below : List Frame} {meth : Method} {c : Code} {H : Heap} {locs : List Loc} {k n mc ms : Nat} {ls : Array Slot} {st0 : List Value} {Q : State → Prop} {h1 : k_H} {v : Option k_V}
    (hr : va_Run p l e R s m args below meth c H locs k n mc ms (F0 m pc ls st0) (st.map k_v) (k_Q G h1 (.inl v) a) (k_we G)) (hl : ∀ q ∈ locs, k_we G q.base)
    (K : ∀ (H1 : Heap) (locs1 : List Loc), k_hp G h1 H1 → (∀ q ∈ locs1, k_we G q.base) → W p l e R s m args below meth c H1 locs1 (k + mc) (n + ms) Q (F0 m (pc + 3) ls ((v.toList ++ st).map k_v))) : W p l e R s m args below meth c H locs k n Q (F0 m pc ls st0) := by
  intro T hT X
  obtain ⟨v9, st₀, t, T', L, e0, X', hL, e1, e2, ⟨v8, hv8, ho, hq⟩, hst⟩ := hr T hT X
  cases hv8
  cases ho
  obtain ⟨t2, a1, b1⟩ := K T'.heap (locs ++ L) (by rw [e1]; exact hq) (fun q hq => by rcases List.mem_append.mp hq with z | z; exact hl q z; exact hL q z) T' rfl X'
  refine ⟨t2, hst t2 ?_, b1⟩
  cases v <;> exact a1
theorem k_catR (st : List k_V) : ((st.map k_v).map fun v => v.category) = st.map k_cat := by rw [List.map_map]; exact List.map_congr_left fun v _ => k_v_cat v
theorem j_callV {b idx ci n0 d' : Nat} {as ast : List k_V} {y' : MethodName} {cc' : ByteArray} {mL' : Nat} {rt' : Option FieldType} {h1 : k_H} {v : Option k_V} (hdg : decode cc pc = .ok (.invokevirtual idx, 3)) (hw : k_cV y.cls idx ci y' cc' mL' rt' n0) (hn9 : as.length = n0) (hr9 : as.reverse ++ vR (some b) :: st = ast) (hi : k_is h b ci) (hd : d' + 1 ≤ d) (hst : (st.map k_cat).sum ≤ 8)
    (hC : k_Ct G l y' cc' mL' rt' d' (vR (some b) :: as) h h1 (.inl v)) (K : k_J G l y cc mL rt d h0 h1 (pc + 3) lv (v.toList ++ st) h' r) : k_J G l y cc mL rt d h0 h pc lv ast h' r := by
  obtain ⟨wB, w2, w3, T, N, w4⟩ := hw
  have o1 := hC.1
  have o2 := hC.2.1
  have o3 := K.1
  have o4 := K.2.1
  refine ⟨by omega, by omega, fun p e s m args below meth c C ht H locs k n ls hp hl hk hn hv => ?_⟩
  have hts := C.2.2.2.2.2.1
  have hE := C.2.2.2.2.2.2.2.2.1
  refine k_cont (va_runV (As := as.map k_v) (C := y'.cls) (n := n0) (nL := mL) ⟨C.1, C.2.1, C.2.2.2.1, C.2.2.2.2.1, hts⟩ (k_met hC) ⟨k_cbOf hts wB hd, hts _ w2, hts _ w3⟩ ⟨k_blind _ _ _, k_recv hE hp hi w4, fun U hU hW => ⟨rfl, by rw [hU]; exact hp, k_E.warm hW hE⟩⟩ rfl (by rw [List.length_map]; exact hn9) hv.1 (by rw [← hr9]; simp [List.map_reverse, k_v]) (by rw [show (F0 m pc ls (ast.map k_v)).monitorRoom = 0 from rfl, k_catR]; omega) hdg (by show k + _ ≤ h'.2.1 - h0.2.1 ∧ n + _ ≤ h'.2.2 - h0.2.2; omega)) hl (fun H1 locs1 hp1 hl1 => K.2.2 p e s m args below meth c C ht H1 locs1 _ _ ls hp1 hl1 (by omega) (by omega) hv)
theorem j_callS {idx n0 d' : Nat} {as ast : List k_V} {y' : MethodName} {cc' : ByteArray} {mL' : Nat} {rt' : Option FieldType} {h1 : k_H} {v : Option k_V} (hdg : decode cc pc = .ok (.invokestatic idx, 3)) (hw : k_cS y.cls idx y' cc' mL' rt' n0) (hn9 : as.length = n0) (hr9 : as.reverse ++ st = ast) (hd : d' + 1 ≤ d) (hst : (st.map k_cat).sum ≤ 8)
    (hC : k_Ct G l y' cc' mL' rt' d' as h h1 (.inl v)) (K : k_J G l y cc mL rt d h0 h1 (pc + 3) lv (v.toList ++ st) h' r) : k_J G l y cc mL rt d h0 h pc lv ast h' r := by
  obtain ⟨wB, w2⟩ := hw
  have o1 := hC.1
  have o2 := hC.2.1
  have o3 := K.1
  have o4 := K.2.1
  refine ⟨by omega, by omega, fun p e s m args below meth c C ht H locs k n ls hp hl hk hn hv => ?_⟩
  have hts := C.2.2.2.2.2.1
  have hE := C.2.2.2.2.2.2.2.2.1
  refine k_cont (va_runS (As := as.map k_v) (n := n0) (nL := mL) ⟨C.1, C.2.1, C.2.2.2.1, C.2.2.2.2.1, hts⟩ (k_met hC) ⟨k_cbOf hts wB hd, hts _ w2⟩ ⟨k_blind _ _ _, fun U hU hW => ⟨rfl, by rw [hU]; exact hp, k_E.warm hW hE⟩⟩ rfl (by rw [List.length_map]; exact hn9) hv.1 (by rw [← hr9]; simp [List.map_reverse]) (by rw [show (F0 m pc ls (ast.map k_v)).monitorRoom = 0 from rfl, k_catR]; omega) hdg (by show k + _ ≤ h'.2.1 - h0.2.1 ∧ n + _ ≤ h'.2.2 - h0.2.2; omega)) hl (fun H1 locs1 hp1 hl1 => K.2.2 p e s m args below meth c C ht H1 locs1 _ _ ls hp1 hl1 (by omega) (by omega) hv)
theorem j_callI {b idx n0 d' : Nat} {as ast : List k_V} {y' : MethodName} {cc' : ByteArray} {mL' : Nat} {h1 : k_H} {v : Option k_V} (hdg : decode cc pc = .ok (.invokespecial idx, 3)) (hw : k_cC y.cls idx y' cc' mL' n0) (hn9 : as.length = n0) (hr9 : as.reverse ++ vR (some b) :: st = ast) (hd : d' + 1 ≤ d) (hst : (st.map k_cat).sum ≤ 8)
    (hC : k_Ct G l y' cc' mL' none d' (vR (some b) :: as) h h1 (.inl v)) (K : k_J G l y cc mL rt d h0 h1 (pc + 3) lv (v.toList ++ st) h' r) : k_J G l y cc mL rt d h0 h pc lv ast h' r := by
  obtain ⟨wB, w2, w3⟩ := hw
  have o1 := hC.1
  have o2 := hC.2.1
  have o3 := K.1
  have o4 := K.2.1
  refine ⟨by omega, by omega, fun p e s m args below meth c C ht H locs k n ls hp hl hk hn hv => ?_⟩
  have hts := C.2.2.2.2.2.1
  have hE := C.2.2.2.2.2.2.2.2.1
  refine k_cont (va_runI (As := as.map k_v) (n := n0) (nL := mL) ⟨C.1, C.2.1, C.2.2.2.1, C.2.2.2.2.1, hts⟩ (k_met hC) ⟨k_cbOf hts wB hd, w2, hts _ w3⟩ ⟨k_blind _ _ _, fun U hU hW => ⟨rfl, by rw [hU]; exact hp, k_E.warm hW hE⟩⟩ rfl (by rw [List.length_map]; exact hn9) hv.1 (by rw [← hr9]; simp [List.map_reverse, k_v]) (by rw [show (F0 m pc ls (ast.map k_v)).monitorRoom = 0 from rfl, k_catR]; omega) hdg (by show k + _ ≤ h'.2.1 - h0.2.1 ∧ n + _ ≤ h'.2.2 - h0.2.2; omega)) hl (fun H1 locs1 hp1 hl1 => K.2.2 p e s m args below meth c C ht H1 locs1 _ _ ls hp1 hl1 (by omega) (by omega) hv)
theorem k_cnOf {args : Array Value} {s : State} {own host : String} {idx n d' : Nat} {y' : MethodName} {cc' : ByteArray} {mL' : Nat} {rt' : Option FieldType} {h1 : k_H} (hts : ∀ w ∈ k_tbl, w.before args s = true) (hE : k_E G s) (hc : k_cN own idx y' host cc' mL' rt' n) (hd : d' + 1 ≤ d) : va_CN (k_rm d h0 h') s args own idx y' host cc' mL' rt' (.code y' cc' mL' rt' :: k_tbl) (k_rm d' h h1) (h1.2.1 - h.2.1) (h1.2.2 - h.2.2) n := by
  obtain ⟨c6, c1, c2, c3, c4, c5⟩ := hc
  refine ⟨⟨rfl, rfl, hd, by show 8 + (mL' + 11) + 40 * d' ≤ 40 * d; omega, k_payAll hts c1, List.mem_cons_self⟩, hts _ c1, hts _ c2, c3, fun sig h => ?_, va_Nw.use rfl (hE.2.2.2.2.2.2.1 _ c6)⟩
  rw [h] at c4
  exact (Option.some.inj c4).symm
theorem j_callSN {host : String} {idx n0 d' : Nat} {as ast : List k_V} {y' : MethodName} {cc' : ByteArray} {mL' : Nat} {rt' : Option FieldType} {h1 : k_H} {v : Option k_V} (hdg : decode cc pc = .ok (.invokestatic idx, 3)) (hw : k_cN y.cls idx y' host cc' mL' rt' n0) (hst9 : Cond.static y' ∈ k_tbl) (hn9 : as.length = n0) (hr9 : as.reverse ++ st = ast) (hd : d' + 1 ≤ d) (hst : (st.map k_cat).sum ≤ 8)
    (hC : k_Ct G l y' cc' mL' rt' d' as h h1 (.inl v)) (K : k_J G l y cc mL rt d h0 h1 (pc + 3) lv (v.toList ++ st) h' r) : k_J G l y cc mL rt d h0 h pc lv ast h' r := by
  have o1 := hC.1
  have o2 := hC.2.1
  have o3 := K.1
  have o4 := K.2.1
  refine ⟨by omega, by omega, fun p e s m args below meth c C ht H locs k n ls hp hl hk hn hv => ?_⟩
  have hts := C.2.2.2.2.2.1
  have hE := C.2.2.2.2.2.2.2.2.1
  refine k_cont (va_runSN (As := as.map k_v) (n := n0) (nL := mL) ⟨C.1, C.2.1, C.2.2.2.1, C.2.2.2.2.1, hts⟩ (k_met hC) ⟨k_cnOf hts hE hw hd, hts _ hst9, trivial⟩ ⟨k_blind _ _ _, fun U hU hW => ⟨rfl, by rw [hU]; exact hp, k_E.warm hW hE⟩⟩ rfl (by rw [List.length_map]; exact hn9) hv.1 (by rw [← hr9]; simp [List.map_reverse]) (by rw [show (F0 m pc ls (ast.map k_v)).monitorRoom = 0 from rfl, k_catR]; omega) hdg (by show k + _ ≤ h'.2.1 - h0.2.1 ∧ n + _ ≤ h'.2.2 - h0.2.2; omega)) hl (fun H1 locs1 hp1 hl1 => K.2.2 p e s m args below meth c C ht H1 locs1 _ _ ls hp1 hl1 (by omega) (by omega) hv)
theorem j_callIN {host : String} {b idx n0 d' : Nat} {as ast : List k_V} {y' : MethodName} {cc' : ByteArray} {mL' : Nat} {h1 : k_H} {v : Option k_V} (hdg : decode cc pc = .ok (.invokespecial idx, 3)) (hw : k_cN y.cls idx y' host cc' mL' none n0) (hy9 : y'.name = "<init>") (hin9 : Cond.instanceMethod y' ∈ k_tbl) (hn9 : as.length = n0) (hr9 : as.reverse ++ vR (some b) :: st = ast) (hd : d' + 1 ≤ d) (hst : (st.map k_cat).sum ≤ 8)
    (hC : k_Ct G l y' cc' mL' none d' (vR (some b) :: as) h h1 (.inl v)) (K : k_J G l y cc mL rt d h0 h1 (pc + 3) lv (v.toList ++ st) h' r) : k_J G l y cc mL rt d h0 h pc lv ast h' r := by
  have o1 := hC.1
  have o2 := hC.2.1
  have o3 := K.1
  have o4 := K.2.1
  refine ⟨by omega, by omega, fun p e s m args below meth c C ht H locs k n ls hp hl hk hn hv => ?_⟩
  have hts := C.2.2.2.2.2.1
  have hE := C.2.2.2.2.2.2.2.2.1
  refine k_cont (va_runIN (As := as.map k_v) (n := n0) (nL := mL) ⟨C.1, C.2.1, C.2.2.2.1, C.2.2.2.2.1, hts⟩ (k_met hC) ⟨k_cnOf hts hE hw hd, hy9, hts _ hin9⟩ ⟨k_blind _ _ _, fun U hU hW => ⟨rfl, by rw [hU]; exact hp, k_E.warm hW hE⟩⟩ rfl (by rw [List.length_map]; exact hn9) hv.1 (by rw [← hr9]; simp [List.map_reverse, k_v]) (by rw [show (F0 m pc ls (ast.map k_v)).monitorRoom = 0 from rfl, k_catR]; omega) hdg (by show k + _ ≤ h'.2.1 - h0.2.1 ∧ n + _ ≤ h'.2.2 - h0.2.2; omega)) hl (fun H1 locs1 hp1 hl1 => K.2.2 p e s m args below meth c C ht H1 locs1 _ _ ls hp1 hl1 (by omega) (by omega) hv)
/-- Object's constructor -/
theorem j_objInit {b idx : Nat} (hdg : decode cc pc = .ok (.invokespecial idx, 3)) (h1 : Cond.methodLink y.cls idx objectInit ∈ k_tbl) (h2 : Cond.instanceMethod objectInit ∈ k_tbl) (h3 : Cond.code objectInit ⟨#[0xb1]⟩ 1 none ∈ k_tbl) (hd : 1 ≤ d) (hst : (st.map k_cat).sum ≤ 8) (K : k_J G l y cc mL rt d h0 h (pc + 3) lv st h' r) : k_J G l y cc mL rt d h0 h pc lv (vR (some b) :: st) h' r :=
  ⟨K.1, K.2.1, fun p e s m args below meth c C ht H locs k n ls hp hl hk hn hv => by
    have hts := C.2.2.2.2.2.1
    refine W.objInit C.1 C.2.1 C.2.2.2.2.1 (hts _ h1) (hts _ h2) (hts _ h3) rfl (by rw [C.2.2.2.1]; exact hv.1) rfl hdg ?_ ?_ (K.2.2 p e s m args below meth c C ht H locs k n ls hp hl hk hn hv)
    · exact hd
    · show 2 * (F0 m pc ls (Value.ref b :: st.map k_v)).monitorRoom + ((st.map k_v).map fun v => v.category).sum + 12 ≤ 40 * d
      rw [show (F0 m pc ls (Value.ref b :: st.map k_v)).monitorRoom = 0 from rfl, k_catR]
      omega⟩
/-- a method's body gives its contract -/
def k_args : Nat → List k_V → k_L
  | _, [] => []
  | i, v :: vs => (i, v) :: k_args (if k_cat v = 2 then i + 2 else i + 1) vs
theorem k_args_lm (as : List k_V) : ∀ i : Nat, lv_args i (as.map k_v) = k_lm (k_args i as) := by
  induction as with
  | nil => intro i; rfl
  | cons v vs ih =>
    intro i
    simp only [List.map_cons, lv_args, k_args, k_lm, List.map_cons, k_v_cat]
    rw [ih]
    rfl
theorem k_args_len (as : List k_V) : (lg_sl (as.map k_v)).length = (as.map k_cat).sum := by
  induction as with
  | nil => rfl
  | cons v vs ih =>
    simp only [List.map_cons, List.sum_cons, ← ih]
    show ((if (k_v v).category = 2 then [Slot.val (k_v v), .second] else [.val (k_v v)]) ++ lg_sl (vs.map k_v)).length = _
    rw [List.length_append, k_v_cat]
    rcases v with x | x | x <;> simp [k_cat]
theorem k_CtOf {as : List k_V} (hy : plainName y.cls = true) (hlen : (as.map k_cat).sum ≤ mL) (K : k_J G l y cc mL rt d h h 0 (k_args 0 as) [] h' r) (hfl : l.flags = flags0) : k_Ct G l y cc mL rt d as h h' r := by
  refine ⟨K.1, K.2.1, vx_ofW (cc := cc) (maxL := mL) (ret := rt) hy rfl ?_⟩
  intro p e s m args below meth c s₁ B hml ht hv
  obtain ⟨rfl, hp, hE⟩ := hv
  have hts := atoms_spec (ws := .code y cc mL rt :: k_tbl) B.pre
  have hown : s.vm.findClass y.cls = some m.cls := findClass_of_methodNamed B.named
  have hl := lv_entry (as.map k_v) (n := mL) (by rw [k_args_len]; exact hlen)
  rw [k_args_lm] at hl
  rw [lg_entry_eq]
  exact K.2.2 p e s m _ below meth c ⟨B.exec, B.bytes, B.returns, hml, hown, fun w hw => hts w (List.mem_cons_of_mem _ hw), B.notSynchronized, (name_of_methodNamed B.named B.method).1, hE, hp, hfl⟩ ht s.heap [] 0 0 _ hp (fun _ h => by cases h) (by omega) (by omega) hl
end KC
