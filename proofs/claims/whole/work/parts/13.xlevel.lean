/-! EXCEPTIONS, AND THE JUDGEMENT WITH A POSTCONDITION -/
section KX
variable {G : k_G} {l : Launch} {y : MethodName} {cc : ByteArray} {mL : Nat} {rt : Option FieldType} {d : Nat} {h0 h h' : k_H} {pc : Nat} {lv : k_L} {st : List k_V} {r : k_R}
theorem k_noTable {c : Code} {pc : Nat} (ht : ∀ x ∈ c.exceptionTable.toList, False) : ∀ x ∈ c.exceptionTable.toList, covers x pc = false := fun x hx => (ht x hx).elim
/-- a callee throws: so does this method -/
theorem k_contX {p : Program} {e : Env} {R : Room} {s : State} {m : MethodId} {args a : Array Value} {below : List Frame} {meth : Method} {c : Code} {H : Heap} {locs : List Loc} {k n mc ms kc ks : Nat} {ls : Array Slot} {st0 rest : List Value} {h1 : k_H} {E9 : String}
    (hr : vx_Run p l e R s m args below meth c H locs k n mc ms (F0 m pc ls st0) rest (k_Q G h1 (.inr E9) a) (k_XC G h1 (.inr E9)) (k_we G)) (hl : ∀ q ∈ locs, k_we G q.base) (ht : ∀ x ∈ c.exceptionTable.toList, False) (hlk : meth.locks = false) (hk : k + mc ≤ kc) (hn : n + ms ≤ ks) :
    W p l e R s m args below meth c H locs k n (vx_MQ below (k_Q G h1 (.inr E9)) (k_XC G h1 (.inr E9)) args s kc ks (k_we G)) (F0 m pc ls st0) := by
  intro T hT X
  rcases hr T hT X with ⟨v9, st₀, t, T', L, e0, X', hL, e1, e2, ⟨v8, hv8, ho, hq⟩, hst⟩ | ⟨q, st₀, t, T', L, E, ce, e0, X', hL, e1, e2, ⟨hE, hp1⟩, hce, hcv, hcl, hst⟩
  · cases hv8
  · cases hE
    have hx := vx_out (p := p) (l := l) (e := e) (R := R) (s := s) (m := m) (args := args) (below := below) (meth := meth) (c := c) (H := T'.heap) (locs := locs ++ L) (cells := k + mc) (slots := n + ms) (free := k_we G) (ls := ls) (rest := rest) (Qc := k_Q G h1 (.inr E9)) (XC := k_XC G h1 (.inr E9)) (pc := pc) (E := E9) (ce := ce) (q := q) (mc := kc) (ms := ks) (k_noTable ht) hlk (by rw [e1]; exact hce) hcv hcl
      (fun t9 ht9 _ => ⟨rfl, by rw [ht9, e1]; exact hp1⟩) (fun q hq => by rcases List.mem_append.mp hq with z | z; exact hl q z; exact hL q z) hk hn
    obtain ⟨t2, a1, b1⟩ := hx T' rfl X'
    exact ⟨t2, hst.trans a1, b1⟩
theorem j_callVx {b idx ci n0 d' : Nat} {as ast : List k_V} {y' : MethodName} {cc' : ByteArray} {mL' : Nat} {rt' : Option FieldType} {h1 : k_H} {E : String} (hdg : decode cc pc = .ok (.invokevirtual idx, 3)) (hw : k_cV y.cls idx ci y' cc' mL' rt' n0) (hn9 : as.length = n0) (hr9 : as.reverse ++ vR (some b) :: st = ast) (hi : k_is h b ci) (hd : d' + 1 ≤ d) (hst : (st.map k_cat).sum ≤ 8)
    (hC : k_Ct G l y' cc' mL' rt' d' (vR (some b) :: as) h h1 (.inr E)) : k_J G l y cc mL rt d h0 h pc lv ast h1 (.inr E) := by
  obtain ⟨wB, w2, w3, T, N, w4⟩ := hw
  have o1 := hC.1
  have o2 := hC.2.1
  refine ⟨o1, o2, fun p e s m args below meth c C ht H locs k n ls hp hl hk hn hv => ?_⟩
  have hts := C.2.2.2.2.2.1
  have hE := C.2.2.2.2.2.2.2.2.1
  exact k_contX (vx_runV (As := as.map k_v) (C := y'.cls) (n := n0) (nL := mL) (rest := st.map k_v) ⟨C.1, C.2.1, C.2.2.2.1, C.2.2.2.2.1, hts⟩ hC.2.2 ⟨k_cbOf hts wB hd, hts _ w2, hts _ w3⟩ ⟨k_blind _ _ _, k_recv hE hp hi w4, fun U hU hW => ⟨rfl, by rw [hU]; exact hp, k_E.warm hW hE⟩⟩ rfl (by rw [List.length_map]; exact hn9) hv.1 (by rw [← hr9]; simp [List.map_reverse, k_v]) (by rw [show (F0 m pc ls (ast.map k_v)).monitorRoom = 0 from rfl, k_catR]; omega) hdg (by show k + _ ≤ h1.2.1 - h0.2.1 ∧ n + _ ≤ h1.2.2 - h0.2.2; omega)) hl ht C.2.2.2.2.2.2.1 (by omega) (by omega)
theorem j_callSx {idx n0 d' : Nat} {as ast : List k_V} {y' : MethodName} {cc' : ByteArray} {mL' : Nat} {rt' : Option FieldType} {h1 : k_H} {E : String} (hdg : decode cc pc = .ok (.invokestatic idx, 3)) (hw : k_cS y.cls idx y' cc' mL' rt' n0) (hn9 : as.length = n0) (hr9 : as.reverse ++ st = ast) (hd : d' + 1 ≤ d) (hst : (st.map k_cat).sum ≤ 8)
    (hC : k_Ct G l y' cc' mL' rt' d' as h h1 (.inr E)) : k_J G l y cc mL rt d h0 h pc lv ast h1 (.inr E) := by
  obtain ⟨wB, w2⟩ := hw
  have o1 := hC.1
  have o2 := hC.2.1
  refine ⟨o1, o2, fun p e s m args below meth c C ht H locs k n ls hp hl hk hn hv => ?_⟩
  have hts := C.2.2.2.2.2.1
  have hE := C.2.2.2.2.2.2.2.2.1
  exact k_contX (vx_runS (As := as.map k_v) (n := n0) (nL := mL) (rest := st.map k_v) ⟨C.1, C.2.1, C.2.2.2.1, C.2.2.2.2.1, hts⟩ hC.2.2 ⟨k_cbOf hts wB hd, hts _ w2⟩ ⟨k_blind _ _ _, fun U hU hW => ⟨rfl, by rw [hU]; exact hp, k_E.warm hW hE⟩⟩ rfl (by rw [List.length_map]; exact hn9) hv.1 (by rw [← hr9]; simp [List.map_reverse]) (by rw [show (F0 m pc ls (ast.map k_v)).monitorRoom = 0 from rfl, k_catR]; omega) hdg (by show k + _ ≤ h1.2.1 - h0.2.1 ∧ n + _ ≤ h1.2.2 - h0.2.2; omega)) hl ht C.2.2.2.2.2.2.1 (by omega) (by omega)
/-- the words of 'throw new E("text")' -/
def k_thr (own cls text : String) (names : List String) (ik is ic : Nat) : Prop := own = RX11 ∧ Bundle.fit cls = true ∧ (∀ n ∈ names, Bundle.fit n = true) ∧ Cond.classLink own ik cls ∈ k_tbl ∧ Cond.initialized cls ∈ k_tbl ∧ (is, text) ∈ k_strs ∧ names.length ≤ 4 ∧
  (∀ w ∈ vx_atS own ic cls names, w ∈ k_tbl ∨ (∃ q ∈ k_casts, w = .castable q.1 q.2) ∨ ∃ x ∈ k_decls, w = .declares x)
theorem k_vxot {w : Cond} (h : w ∈ k_tbl) : vx_ot w = true := by
  have := (List.mem_filter.mp h).2
  simp only [vx_ot, Bool.or_eq_true]
  exact Or.inr this
theorem k_thrW {G : k_G} {own cls text : String} {names : List String} {ik is ic : Nat} {args : Array Value} {s : State} (hw : k_thr own cls text names ik is ic) (hts : ∀ w ∈ k_tbl, w.before args s = true) (hE : k_E G s) : (∀ w ∈ vx_atS own ic cls names, w.before args s = true) ∧ ∀ w ∈ Cond.classLink own ik cls :: Cond.initialized cls :: vx_atS own ic cls names, vx_ot w = true := by
  obtain ⟨w0, w1, w2, w3, w4, w5, w6, w7⟩ := hw
  refine ⟨fun w h => ?_, fun w h => ?_⟩
  · rcases w7 w h with e | ⟨q, hq, rfl⟩ | ⟨x, hx, rfl⟩
    · exact hts _ e
    · exact va_Nw.use rfl (hE.2.2.2.2.2.2.2.1 q hq)
    · exact va_Nw.use rfl (hE.2.2.2.2.2.2.2.2.2.2.2.2.2.2 x hx)
  · simp only [List.mem_cons] at h
    rcases h with rfl | rfl | h
    · exact k_vxot w3
    · exact k_vxot w4
    · rcases w7 w h with e | ⟨q, hq, rfl⟩ | ⟨x, hx, rfl⟩
      · exact k_vxot e
      · rfl
      · rfl
theorem k_hp_sk {G : k_G} {h : k_H} {H H1 : Heap} (hp : k_hp G h H) {n : Nat} (hz : H1.size = H.size + 1) (hq : ∀ q : Nat, q < H.size → H1[q]? = H[q]?) : k_hp G (k_sk h 1 n) H1 := by
  obtain ⟨p1, p2, p3, F, ow, h1, h2⟩ := hp
  exact ⟨by rw [hz, p1]; rfl, ⟨by have := p2.1; omega, by have := p2.2; omega⟩, fun q hq1 => by rw [hq q (by have := p2.1; omega)]; exact p3 q hq1, F, ow, fun q e he => ⟨(h1 q e he).1, (h1 q e he).2.kept (hq q (h1 q e he).2.lt)⟩, h2⟩
end KX
