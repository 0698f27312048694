/-! ACT AND SILENT: the law's methods with handlers (printed by wip/p37/genc2.py) -/
section KJW2
variable {G : k_G} {l : Launch} {y : MethodName} {cc : ByteArray} {mL : Nat} {rt : Option FieldType} {d : Nat} {hh : List (Nat × Nat × Nat × Nat)} {h0 h h' : k_H} {pc : Nat} {lv : k_L} {st : List k_V} {r : k_R}

theorem w_bipush {n0 : Int} {v : Int32} (hdg : decode cc pc = .ok (.bipush n0, 2)) (hc : (Int8.ofInt n0).toInt32 = v) (K : k_Jw G l y cc mL rt d hh h0 h (pc + 2) lv (vI v :: st) h' r) : k_Jw G l y cc mL rt d hh h0 h pc lv (st) h' r :=
  ⟨K.1, K.2.1, fun p e s m args below meth c C ht H locs k n ls hp hl hk hn hv => lv_bipush C.1 C.2.1 hdg hc (K.2.2 p e s m args below meth c C ht H locs k n ls hp hl hk hn hv)⟩

theorem w_if_ne_t {x : Int32} {off : Int} {tgt : Nat} (hdg : decode cc pc = .ok (.ifCond .ne off, 3)) (ht9 : (pc : Int) + off = (tgt : Int)) (hc : ¬ x = 0) (K : k_Jw G l y cc mL rt d hh h0 h tgt lv st h' r) : k_Jw G l y cc mL rt d hh h0 h pc lv (vI x :: st) h' r :=
  ⟨K.1, K.2.1, fun p e s m args below meth c C ht H locs k n ls hp hl hk hn hv => lv_if_ne C.1 C.2.1 hdg ht9 (fun _ => (K.2.2 p e s m args below meth c C ht H locs k n ls hp hl hk hn hv)) (fun q => by first | exact absurd q hc | exact absurd hc q)⟩

theorem w_if_ne_f {x : Int32} {off : Int} (hdg : decode cc pc = .ok (.ifCond .ne off, 3)) (tgt : Nat) (ht9 : (pc : Int) + off = (tgt : Int)) (hc : x = 0) (K : k_Jw G l y cc mL rt d hh h0 h (pc + 3) lv st h' r) : k_Jw G l y cc mL rt d hh h0 h pc lv (vI x :: st) h' r :=
  ⟨K.1, K.2.1, fun p e s m args below meth c C ht H locs k n ls hp hl hk hn hv => lv_if_ne C.1 C.2.1 hdg ht9 (fun q => by first | exact absurd q hc | exact absurd hc q) (fun _ => (K.2.2 p e s m args below meth c C ht H locs k n ls hp hl hk hn hv))⟩

theorem w_if_eq_t {x : Int32} {off : Int} {tgt : Nat} (hdg : decode cc pc = .ok (.ifCond .eq off, 3)) (ht9 : (pc : Int) + off = (tgt : Int)) (hc : x = 0) (K : k_Jw G l y cc mL rt d hh h0 h tgt lv st h' r) : k_Jw G l y cc mL rt d hh h0 h pc lv (vI x :: st) h' r :=
  ⟨K.1, K.2.1, fun p e s m args below meth c C ht H locs k n ls hp hl hk hn hv => lv_if_eq C.1 C.2.1 hdg ht9 (fun _ => (K.2.2 p e s m args below meth c C ht H locs k n ls hp hl hk hn hv)) (fun q => by first | exact absurd q hc | exact absurd hc q)⟩

theorem w_if_eq_f {x : Int32} {off : Int} (hdg : decode cc pc = .ok (.ifCond .eq off, 3)) (tgt : Nat) (ht9 : (pc : Int) + off = (tgt : Int)) (hc : ¬ x = 0) (K : k_Jw G l y cc mL rt d hh h0 h (pc + 3) lv st h' r) : k_Jw G l y cc mL rt d hh h0 h pc lv (vI x :: st) h' r :=
  ⟨K.1, K.2.1, fun p e s m args below meth c C ht H locs k n ls hp hl hk hn hv => lv_if_eq C.1 C.2.1 hdg ht9 (fun q => by first | exact absurd q hc | exact absurd hc q) (fun _ => (K.2.2 p e s m args below meth c C ht H locs k n ls hp hl hk hn hv))⟩

theorem w_icmp_ne_t {x z : Int32} {off : Int} {tgt : Nat} (hdg : decode cc pc = .ok (.if_icmp .ne off, 3)) (ht9 : (pc : Int) + off = (tgt : Int)) (hc : ¬ x = z) (K : k_Jw G l y cc mL rt d hh h0 h tgt lv st h' r) : k_Jw G l y cc mL rt d hh h0 h pc lv (vI z :: vI x :: st) h' r :=
  ⟨K.1, K.2.1, fun p e s m args below meth c C ht H locs k n ls hp hl hk hn hv => lv_icmp_ne C.1 C.2.1 hdg ht9 (fun _ => (K.2.2 p e s m args below meth c C ht H locs k n ls hp hl hk hn hv)) (fun q => by first | exact absurd q hc | exact absurd hc q)⟩

theorem w_icmp_ne_f {x z : Int32} {off : Int} (hdg : decode cc pc = .ok (.if_icmp .ne off, 3)) (tgt : Nat) (ht9 : (pc : Int) + off = (tgt : Int)) (hc : x = z) (K : k_Jw G l y cc mL rt d hh h0 h (pc + 3) lv st h' r) : k_Jw G l y cc mL rt d hh h0 h pc lv (vI z :: vI x :: st) h' r :=
  ⟨K.1, K.2.1, fun p e s m args below meth c C ht H locs k n ls hp hl hk hn hv => lv_icmp_ne C.1 C.2.1 hdg ht9 (fun q => by first | exact absurd q hc | exact absurd hc q) (fun _ => (K.2.2 p e s m args below meth c C ht H locs k n ls hp hl hk hn hv))⟩

theorem w_ldc {i0 : Nat} {v : Int32} (hdg : decode cc pc = .ok (.ldc i0, 2)) (hw : Cond.constant y.cls i0 v ∈ k_tbl) (K : k_Jw G l y cc mL rt d hh h0 h (pc + 2) lv (vI v :: st) h' r) : k_Jw G l y cc mL rt d hh h0 h pc lv st h' r :=
  ⟨K.1, K.2.1, fun p e s m args below meth c C ht H locs k n ls hp hl hk hn hv => lv_ldc C.1 C.2.1 C.2.2.2.2.1 (C.2.2.2.2.2.1 _ hw) hdg (K.2.2 p e s m args below meth c C ht H locs k n ls hp hl hk hn hv)⟩

theorem w_callS {idx n0 d' : Nat} {as ast : List k_V} {y' : MethodName} {cc' : ByteArray} {mL' : Nat} {rt' : Option FieldType} {h1 : k_H} {v : Option k_V} (hdg : decode cc pc = .ok (.invokestatic idx, 3)) (hw : k_cS y.cls idx y' cc' mL' rt' n0) (hn9 : as.length = n0) (hr9 : as.reverse ++ st = ast) (hd : d' + 1 ≤ d) (hst : (st.map k_cat).sum ≤ 8)
    (hC : k_Ct G l y' cc' mL' rt' d' as h h1 (.inl v)) (K : k_Jw G l y cc mL rt d hh h0 h1 (pc + 3) lv (v.toList ++ st) h' r) : k_Jw G l y cc mL rt d hh h0 h pc lv ast h' r := by
  obtain ⟨wB, w2⟩ := hw
  have o1 := hC.1
  have o2 := hC.2.1
  have o3 := K.1
  have o4 := K.2.1
  refine ⟨by omega, by omega, fun p e s m args below meth c C ht H locs k n ls hp hl hk hn hv => ?_⟩
  have hts := C.2.2.2.2.2.1
  have hE := C.2.2.2.2.2.2.2.2.1
  refine k_cont (va_runS (As := as.map k_v) (n := n0) (nL := mL) ⟨C.1, C.2.1, C.2.2.2.1, C.2.2.2.2.1, hts⟩ (k_met hC) ⟨k_cbOf hts wB hd, hts _ w2⟩ ⟨k_blind _ _ _, fun U hU hW => ⟨rfl, by rw [hU]; exact hp, k_E.warm hW hE⟩⟩ rfl (by rw [List.length_map]; exact hn9) hv.1 (by rw [← hr9]; simp [List.map_reverse]) (by rw [show (F0 m pc ls (ast.map k_v)).monitorRoom = 0 from rfl, k_catR]; omega) hdg (by show k + _ ≤ h'.2.1 - h0.2.1 ∧ n + _ ≤ h'.2.2 - h0.2.2; omega)) hl (fun H1 locs1 hp1 hl1 => K.2.2 p e s m args below meth c C ht H1 locs1 _ _ ls hp1 hl1 (by omega) (by omega) hv)

theorem w_sub {lv9 : k_L} (hs : ∀ q ∈ lv9, q ∈ lv) (K : k_Jw G l y cc mL rt d hh h0 h pc lv9 st h' r) : k_Jw G l y cc mL rt d hh h0 h pc lv st h' r :=
  ⟨K.1, K.2.1, fun p e s m args below meth c C ht H locs k n ls hp hl hk hn hv => K.2.2 p e s m args below meth c C ht H locs k n ls hp hl hk hn (lv_mono hv (k_lm_sub hs))⟩

theorem w_callSx {idx n0 d' : Nat} {as ast : List k_V} {y' : MethodName} {cc' : ByteArray} {mL' : Nat} {rt' : Option FieldType} {h1 : k_H} {E name : String} (pre : List ExceptionTableEntry) (x : ExceptionTableEntry) (suf : List ExceptionTableEntry) (hsp : tableOf hh = pre ++ x :: suf)
    (hpass : ∀ z ∈ pre, z.catchType ≠ 0 ∧ ∃ nm : String, Cond.classLink y.cls z.catchType nm ∈ k_tbl ∧ (E, nm) ∈ k_ncasts) (hx : covers x pc = true) (hx0 : x.catchType ≠ 0) (hlk : Cond.classLink y.cls x.catchType name ∈ k_tbl) (hct : (E, name) ∈ k_casts)
    (hdg : decode cc pc = .ok (.invokestatic idx, 3)) (hw : k_cS y.cls idx y' cc' mL' rt' n0) (hn9 : as.length = n0) (hr9 : as.reverse ++ st = ast) (hd : d' + 1 ≤ d) (hst : (st.map k_cat).sum ≤ 8)
    (hC : k_Ct G l y' cc' mL' rt' d' as h h1 (.inr E)) (K : ∀ q, k_Jw G l y cc mL rt d hh h0 h1 x.handlerPc lv [vR (some q)] h' r) : k_Jw G l y cc mL rt d hh h0 h pc lv ast h' r := by
  obtain ⟨wB, w2⟩ := hw
  have o1 := hC.1
  have o2 := hC.2.1
  have o3 := (K 0).1
  have o4 := (K 0).2.1
  refine ⟨by omega, by omega, fun p e s m args below meth c C ht H locs k n ls hp hl hk hn hv => ?_⟩
  have hts := C.2.2.2.2.2.1
  have hE := C.2.2.2.2.2.2.2.2.1
  have hr := vx_runS (p := p) (l := l) (e := e) (R := k_rm d h0 h') (s := s) (m := m) (args := args) (below := below) (meth := meth) (c := c) (H := H) (locs := locs) (cells := k) (slots := n) (cc := cc) (As := as.map k_v) (n := n0) (nL := mL) (rest := st.map k_v) (g := F0 m pc ls (ast.map k_v)) (own := y.cls) (index := idx) ⟨C.1, C.2.1, C.2.2.2.1, C.2.2.2.2.1, hts⟩ hC.2.2 ⟨k_cbOf hts wB hd, hts _ w2⟩ ⟨k_blind _ _ _, fun U hU hW => ⟨rfl, by rw [hU]; exact hp, k_E.warm hW hE⟩⟩ rfl (by rw [List.length_map]; exact hn9) hv.1 (by rw [← hr9]; simp [List.map_reverse]) (by rw [show (F0 m pc ls (ast.map k_v)).monitorRoom = 0 from rfl, k_catR]; omega) hdg (by show k + _ ≤ h'.2.1 - h0.2.1 ∧ n + _ ≤ h'.2.2 - h0.2.2; omega)
  intro T hT X
  rcases hr T hT X with ⟨v9, st₀, t, T', L, e0, X', hL, e1, e2, ⟨v8, hv8, ho, hq⟩, hgo⟩ | ⟨q, st₀, t, T', L, E9, ce, e0, X', hL, e1, e2, ⟨hE9, hp1⟩, hce, hcv, hcl, hgo⟩
  · cases hv8
  · cases hE9
    have hw9 := vx_catch (p := p) (l := l) (e := e) (R := k_rm d h0 h') (s := s) (m := m) (args := args) (below := below) (meth := meth) (c := c) (H := T'.heap) (locs := locs ++ L) (cells := k + (h1.2.1 - h.2.1)) (slots := n + (h1.2.2 - h.2.2)) (ls := ls) (rest := st.map k_v) (pc := pc) (E := E) (q := q) (ce := ce) C.2.2.2.2.1 pre x suf (ht.trans hsp)
      (fun z hz => Or.inr (by obtain ⟨z0, nm, z1, z2⟩ := hpass z hz; exact ⟨z0, nm, hts _ z1, hE.2.2.2.2.2.2.2.2.1 _ z2⟩)) hx hx0 (hts _ hlk) (va_Nw.use rfl (hE.2.2.2.2.2.2.2.1 _ hct)) (by rw [e1]; exact hce) hcv hcl
      ((K q).2.2 p e s m args below meth c C ht T'.heap (locs ++ L) (k + (h1.2.1 - h.2.1)) (n + (h1.2.2 - h.2.2)) ls (by rw [e1]; exact hp1) (fun z hz => by rcases List.mem_append.mp hz with z9 | z9; exact hl z z9; exact hL z z9) (by omega) (by omega) hv)
    obtain ⟨t2, a1, b1⟩ := hw9 T' rfl X'
    exact ⟨t2, hgo.trans a1, b1⟩

end KJW2
theorem kx_L_105 : Cond.classLink RL 105 "java/lang/IndexOutOfBoundsException" ∈ k_tbl := k_ic k_c3 57 (by decide +kernel) (by decide +kernel)
theorem kx_L_108 : Cond.classLink RL 108 "java/lang/IllegalArgumentException" ∈ k_tbl := k_ic k_c3 58 (by decide +kernel) (by decide +kernel)
theorem kx_L_111 : Cond.classLink RL 111 "java/lang/IllegalStateException" ∈ k_tbl := k_ic k_c3 59 (by decide +kernel) (by decide +kernel)
theorem ki_L_7 : Cond.constant RL 7 (1726730681) ∈ k_tbl := k_ic k_c3 52 (by decide +kernel) (by decide +kernel)
theorem ki_L_8 : Cond.constant RL 8 (2147483647) ∈ k_tbl := k_ic k_c3 53 (by decide +kernel) (by decide +kernel)
theorem kb_L_15 : k_cB RL 15 yX11_get cX11_get 9 (some .int) 5 := ⟨k_ic k_c3 80 (by decide +kernel) (by decide +kernel), k_ic k_c1 1 (by decide +kernel) (by decide +kernel), by decide, by decide +kernel, by decide, k_ic k_c3 77 (by decide +kernel) (by decide +kernel)⟩
theorem kc_L_15 : k_cV RL 15 14 yX11_get cX11_get 9 (some .int) 5 := ⟨kb_L_15, k_ic k_c3 78 (by decide +kernel) (by decide +kernel), k_ic k_c3 79 (by decide +kernel) (by decide +kernel), TX11, 13, rfl⟩
theorem kb_L_27 : k_cB RL 27 yX11_change cX11_change 10 (some .int) 6 := ⟨k_ic k_c3 205 (by decide +kernel) (by decide +kernel), k_ic k_c1 1 (by decide +kernel) (by decide +kernel), by decide, by decide +kernel, by decide, k_ic k_c3 202 (by decide +kernel) (by decide +kernel)⟩
theorem kc_L_27 : k_cV RL 27 14 yX11_change cX11_change 10 (some .int) 6 := ⟨kb_L_27, k_ic k_c3 203 (by decide +kernel) (by decide +kernel), k_ic k_c3 204 (by decide +kernel) (by decide +kernel), TX11, 13, rfl⟩
theorem kb_L_31 : k_cB RL 31 yX11_clear cX11_clear 5 (some .int) 3 := ⟨k_ic k_c5 53 (by decide +kernel) (by decide +kernel), k_ic k_c1 1 (by decide +kernel) (by decide +kernel), by decide, by decide +kernel, by decide, k_ic k_c5 50 (by decide +kernel) (by decide +kernel)⟩
theorem kc_L_31 : k_cV RL 31 14 yX11_clear cX11_clear 5 (some .int) 3 := ⟨kb_L_31, k_ic k_c5 51 (by decide +kernel) (by decide +kernel), k_ic k_c5 52 (by decide +kernel) (by decide +kernel), TX11, 13, rfl⟩
theorem kb_L_35 : k_cB RL 35 yX11_commit cX11_commit 6 (some .int) 1 := ⟨k_ic k_c5 62 (by decide +kernel) (by decide +kernel), k_ic k_c1 1 (by decide +kernel) (by decide +kernel), by decide, by decide +kernel, by decide, k_ic k_c5 59 (by decide +kernel) (by decide +kernel)⟩
theorem kc_L_35 : k_cV RL 35 14 yX11_commit cX11_commit 6 (some .int) 1 := ⟨kb_L_35, k_ic k_c5 60 (by decide +kernel) (by decide +kernel), k_ic k_c5 61 (by decide +kernel) (by decide +kernel), TX11, 13, rfl⟩
theorem kb_L_39 : k_cB RL 39 yX11_pass cX11_pass 2 (some .int) 1 := ⟨k_ic k_c5 221 (by decide +kernel) (by decide +kernel), k_ic k_c1 1 (by decide +kernel) (by decide +kernel), by decide, by decide +kernel, by decide, k_ic k_c5 218 (by decide +kernel) (by decide +kernel)⟩
theorem kc_L_39 : k_cV RL 39 14 yX11_pass cX11_pass 2 (some .int) 1 := ⟨kb_L_39, k_ic k_c5 219 (by decide +kernel) (by decide +kernel), k_ic k_c5 220 (by decide +kernel) (by decide +kernel), TX11, 13, rfl⟩
theorem kb_L_46 : k_cB RL 46 yX11_packed cX11_packed 5 (some .int) 4 := ⟨k_ic k_c5 226 (by decide +kernel) (by decide +kernel), k_ic k_c1 1 (by decide +kernel) (by decide +kernel), by decide, by decide +kernel, by decide, k_ic k_c5 223 (by decide +kernel) (by decide +kernel)⟩
theorem kc_L_46 : k_cV RL 46 14 yX11_packed cX11_packed 5 (some .int) 4 := ⟨kb_L_46, k_ic k_c5 224 (by decide +kernel) (by decide +kernel), k_ic k_c5 225 (by decide +kernel) (by decide +kernel), TX11, 13, rfl⟩
theorem kb_L_49 : k_cB RL 49 yX11_save cX11_save 5 (some .int) 3 := ⟨k_ic k_c5 233 (by decide +kernel) (by decide +kernel), k_ic k_c1 1 (by decide +kernel) (by decide +kernel), by decide, by decide +kernel, by decide, k_ic k_c5 230 (by decide +kernel) (by decide +kernel)⟩
theorem kc_L_49 : k_cV RL 49 14 yX11_save cX11_save 5 (some .int) 3 := ⟨kb_L_49, k_ic k_c5 231 (by decide +kernel) (by decide +kernel), k_ic k_c5 232 (by decide +kernel) (by decide +kernel), TX11, 13, rfl⟩
theorem kb_L_52 : k_cB RL 52 yX11_erase cX11_erase 4 (some .int) 2 := ⟨k_ic k_c6 36 (by decide +kernel) (by decide +kernel), k_ic k_c1 1 (by decide +kernel) (by decide +kernel), by decide, by decide +kernel, by decide, k_ic k_c6 33 (by decide +kernel) (by decide +kernel)⟩
theorem kc_L_52 : k_cV RL 52 14 yX11_erase cX11_erase 4 (some .int) 2 := ⟨kb_L_52, k_ic k_c6 34 (by decide +kernel) (by decide +kernel), k_ic k_c6 35 (by decide +kernel) (by decide +kernel), TX11, 13, rfl⟩
theorem kb_L_56 : k_cB RL 56 yX11_build cX11_build 4 (some .int) 2 := ⟨k_ic k_c6 40 (by decide +kernel) (by decide +kernel), k_ic k_c1 1 (by decide +kernel) (by decide +kernel), by decide, by decide +kernel, by decide, k_ic k_c6 37 (by decide +kernel) (by decide +kernel)⟩
theorem kc_L_56 : k_cV RL 56 14 yX11_build cX11_build 4 (some .int) 2 := ⟨kb_L_56, k_ic k_c6 38 (by decide +kernel) (by decide +kernel), k_ic k_c6 39 (by decide +kernel) (by decide +kernel), TX11, 13, rfl⟩
theorem kb_L_59 : k_cB RL 59 yX11_off cX11_off 7 (some .int) 1 := ⟨k_ic k_c6 66 (by decide +kernel) (by decide +kernel), k_ic k_c1 1 (by decide +kernel) (by decide +kernel), by decide, by decide +kernel, by decide, k_ic k_c6 63 (by decide +kernel) (by decide +kernel)⟩
theorem kc_L_59 : k_cV RL 59 14 yX11_off cX11_off 7 (some .int) 1 := ⟨kb_L_59, k_ic k_c6 64 (by decide +kernel) (by decide +kernel), k_ic k_c6 65 (by decide +kernel) (by decide +kernel), TX11, 13, rfl⟩
theorem kb_L_68 : k_cB RL 68 yX11_watch cX11_watch 4 (some .int) 3 := ⟨k_ic k_c6 79 (by decide +kernel) (by decide +kernel), k_ic k_c1 1 (by decide +kernel) (by decide +kernel), by decide, by decide +kernel, by decide, k_ic k_c6 76 (by decide +kernel) (by decide +kernel)⟩
theorem kc_L_68 : k_cV RL 68 14 yX11_watch cX11_watch 4 (some .int) 3 := ⟨kb_L_68, k_ic k_c6 77 (by decide +kernel) (by decide +kernel), k_ic k_c6 78 (by decide +kernel) (by decide +kernel), TX11, 13, rfl⟩
theorem kb_L_74 : k_cB RL 74 yX11_offer cX11_offer 4 (some .int) 2 := ⟨k_ic k_c6 99 (by decide +kernel) (by decide +kernel), k_ic k_c1 1 (by decide +kernel) (by decide +kernel), by decide, by decide +kernel, by decide, k_ic k_c6 96 (by decide +kernel) (by decide +kernel)⟩
theorem kc_L_74 : k_cV RL 74 14 yX11_offer cX11_offer 4 (some .int) 2 := ⟨kb_L_74, k_ic k_c6 97 (by decide +kernel) (by decide +kernel), k_ic k_c6 98 (by decide +kernel) (by decide +kernel), TX11, 13, rfl⟩
theorem kb_L_77 : k_cB RL 77 yX11_take cX11_take 3 (some .int) 1 := ⟨k_ic k_c6 103 (by decide +kernel) (by decide +kernel), k_ic k_c1 1 (by decide +kernel) (by decide +kernel), by decide, by decide +kernel, by decide, k_ic k_c6 100 (by decide +kernel) (by decide +kernel)⟩
theorem kc_L_77 : k_cV RL 77 14 yX11_take cX11_take 3 (some .int) 1 := ⟨kb_L_77, k_ic k_c6 101 (by decide +kernel) (by decide +kernel), k_ic k_c6 102 (by decide +kernel) (by decide +kernel), TX11, 13, rfl⟩
theorem kb_L_80 : k_cB RL 80 yX11_finish cX11_finish 4 (some .int) 1 := ⟨k_ic k_c6 122 (by decide +kernel) (by decide +kernel), k_ic k_c1 1 (by decide +kernel) (by decide +kernel), by decide, by decide +kernel, by decide, k_ic k_c6 119 (by decide +kernel) (by decide +kernel)⟩
theorem kc_L_80 : k_cV RL 80 14 yX11_finish cX11_finish 4 (some .int) 1 := ⟨kb_L_80, k_ic k_c6 120 (by decide +kernel) (by decide +kernel), k_ic k_c6 121 (by decide +kernel) (by decide +kernel), TX11, 13, rfl⟩
theorem kb_L_86 : k_cB RL 86 yX11_mark cX11_mark 1 (some .int) 0 := ⟨k_ic k_c6 131 (by decide +kernel) (by decide +kernel), k_ic k_c1 1 (by decide +kernel) (by decide +kernel), by decide, by decide +kernel, by decide, k_ic k_c6 128 (by decide +kernel) (by decide +kernel)⟩
theorem kc_L_86 : k_cV RL 86 14 yX11_mark cX11_mark 1 (some .int) 0 := ⟨kb_L_86, k_ic k_c6 129 (by decide +kernel) (by decide +kernel), k_ic k_c6 130 (by decide +kernel) (by decide +kernel), TX11, 13, rfl⟩
theorem kb_L_90 : k_cB RL 90 yX11_bringBack cX11_bringBack 4 (some .int) 1 := ⟨k_ic k_c6 136 (by decide +kernel) (by decide +kernel), k_ic k_c1 1 (by decide +kernel) (by decide +kernel), by decide, by decide +kernel, by decide, k_ic k_c6 133 (by decide +kernel) (by decide +kernel)⟩
theorem kc_L_90 : k_cV RL 90 14 yX11_bringBack cX11_bringBack 4 (some .int) 1 := ⟨kb_L_90, k_ic k_c6 134 (by decide +kernel) (by decide +kernel), k_ic k_c6 135 (by decide +kernel) (by decide +kernel), TX11, 13, rfl⟩
theorem kb_L_93 : k_cB RL 93 yX11_directory cX11_directory 4 (some .int) 2 := ⟨k_ic k_c6 150 (by decide +kernel) (by decide +kernel), k_ic k_c1 1 (by decide +kernel) (by decide +kernel), by decide, by decide +kernel, by decide, k_ic k_c6 147 (by decide +kernel) (by decide +kernel)⟩
theorem kc_L_93 : k_cV RL 93 14 yX11_directory cX11_directory 4 (some .int) 2 := ⟨kb_L_93, k_ic k_c6 148 (by decide +kernel) (by decide +kernel), k_ic k_c6 149 (by decide +kernel) (by decide +kernel), TX11, 13, rfl⟩
theorem kb_L_96 : k_cB RL 96 yX11_remove cX11_remove 5 (some .int) 1 := ⟨k_ic k_c6 163 (by decide +kernel) (by decide +kernel), k_ic k_c1 1 (by decide +kernel) (by decide +kernel), by decide, by decide +kernel, by decide, k_ic k_c6 160 (by decide +kernel) (by decide +kernel)⟩
theorem kc_L_96 : k_cV RL 96 14 yX11_remove cX11_remove 5 (some .int) 1 := ⟨kb_L_96, k_ic k_c6 161 (by decide +kernel) (by decide +kernel), k_ic k_c6 162 (by decide +kernel) (by decide +kernel), TX11, 13, rfl⟩
theorem kb_L_118 : k_cB RL 118 yL_tells cL_tells 4 (some .boolean) 4 := ⟨k_ic k_c6 195 rfl (by decide +kernel), k_ic k_c1 0 (by decide +kernel) (by decide +kernel), by decide, by decide +kernel, by decide, k_ic k_c6 193 (by decide +kernel) (by decide +kernel)⟩
theorem kc_L_118 : k_cS RL 118 yL_tells cL_tells 4 (some .boolean) 4 := ⟨kb_L_118, k_ic k_c6 194 (by decide +kernel) (by decide +kernel)⟩
section ACT
variable {G : k_G} {l : Launch}
/-- what act answers -/
def lp_code (R : s_M × Nat × Int32) (X : Nat → String) : Int32 := if R.2.1 = 0 then R.2.2 else if X R.2.1 = x_IO then -2000000001 else if X R.2.1 = x_IA then -2000000002 else -2000000003
abbrev jwA (G : k_G) (l : Launch) (h0 : k_H) : k_B := k_Jw G l yL_act cL_act 9 (some .int) 29 [(0, 456, 457, 105), (0, 456, 462, 108), (0, 456, 467, 111)] h0
abbrev lvA (a : Nat) (x b c d e f g : Int32) : k_L := [(0, vR (some a)), (1, vI x), (2, vI b), (3, vI c), (4, vI d), (5, vI e), (6, vI f), (7, vI g)]

theorem jh_0 {h0 h : k_H} {a : Nat} {x1 x2 x3 x4 x5 x6 x7 : Int32} {q : Nat} : jwA G l h0 h 457 (lvA a x1 x2 x3 x4 x5 x6 x7) [vR (some q)] h (.inl (some (vI (-2000000001)))) :=
  w_astore (lv9 := k_st1 (lvA a x1 x2 x3 x4 x5 x6 x7) 8 (vR (some q))) dL_act_457 (by decide) rfl (w_ldc (v := (-2000000001)) dL_act_459 ki_L_107 (w_iret dL_act_461 rfl))
theorem jh_1 {h0 h : k_H} {a : Nat} {x1 x2 x3 x4 x5 x6 x7 : Int32} {q : Nat} : jwA G l h0 h 462 (lvA a x1 x2 x3 x4 x5 x6 x7) [vR (some q)] h (.inl (some (vI (-2000000002)))) :=
  w_astore (lv9 := k_st1 (lvA a x1 x2 x3 x4 x5 x6 x7) 8 (vR (some q))) dL_act_462 (by decide) rfl (w_ldc (v := (-2000000002)) dL_act_464 ki_L_110 (w_iret dL_act_466 rfl))
theorem jh_2 {h0 h : k_H} {a : Nat} {x1 x2 x3 x4 x5 x6 x7 : Int32} {q : Nat} : jwA G l h0 h 467 (lvA a x1 x2 x3 x4 x5 x6 x7) [vR (some q)] h (.inl (some (vI (-2000000003)))) :=
  w_astore (lv9 := k_st1 (lvA a x1 x2 x3 x4 x5 x6 x7) 8 (vR (some q))) dL_act_467 (by decide) rfl (w_ldc (v := (-2000000003)) dL_act_469 ki_L_113 (w_iret dL_act_471 rfl))
theorem jt_0 {h0 h : k_H} {a : Nat} {x1 x2 x3 x4 x5 x6 x7 : Int32} {h' : k_H} {r : k_R} (hn : ¬ x1 = 0) (K : jwA G l h0 h 22 (lvA a x1 x2 x3 x4 x5 x6 x7) [] h' r) : jwA G l h0 h 0 (lvA a x1 x2 x3 x4 x5 x6 x7) [] h' r := w_iload_n dL_act_0 rfl rfl (w_if_ne_t (tgt := 22) dL_act_1 (by decide) hn K)
theorem jb_0 {h0 h : k_H} {a : Nat} {x1 x2 x3 x4 x5 x6 x7 : Int32} {h' : k_H} {r : k_R} (hn : x1 = 0) (K : jwA G l h0 h 4 (lvA a x1 x2 x3 x4 x5 x6 x7) [] h' r) : jwA G l h0 h 0 (lvA a x1 x2 x3 x4 x5 x6 x7) [] h' r := w_iload_n dL_act_0 rfl rfl (w_if_ne_f dL_act_1 22 (by decide) hn K)
theorem jt_1 {h0 h : k_H} {a : Nat} {x1 x2 x3 x4 x5 x6 x7 : Int32} {h' : k_H} {r : k_R} (hn : ¬ x1 = 1) (K : jwA G l h0 h 51 (lvA a x1 x2 x3 x4 x5 x6 x7) [] h' r) : jwA G l h0 h 22 (lvA a x1 x2 x3 x4 x5 x6 x7) [] h' r := w_iload_n dL_act_22 rfl rfl (w_iconst (v := 1) dL_act_23 (by decide) (w_icmp_ne_t (tgt := 51) dL_act_24 (by decide) hn K))
theorem jb_1 {h0 h : k_H} {a : Nat} {x1 x2 x3 x4 x5 x6 x7 : Int32} {h' : k_H} {r : k_R} (hn : x1 = 1) (K : jwA G l h0 h 27 (lvA a x1 x2 x3 x4 x5 x6 x7) [] h' r) : jwA G l h0 h 22 (lvA a x1 x2 x3 x4 x5 x6 x7) [] h' r := w_iload_n dL_act_22 rfl rfl (w_iconst (v := 1) dL_act_23 (by decide) (w_icmp_ne_f dL_act_24 51 (by decide) hn K))
theorem jt_2 {h0 h : k_H} {a : Nat} {x1 x2 x3 x4 x5 x6 x7 : Int32} {h' : k_H} {r : k_R} (hn : ¬ x1 = 2) (K : jwA G l h0 h 78 (lvA a x1 x2 x3 x4 x5 x6 x7) [] h' r) : jwA G l h0 h 51 (lvA a x1 x2 x3 x4 x5 x6 x7) [] h' r := w_iload_n dL_act_51 rfl rfl (w_iconst (v := 2) dL_act_52 (by decide) (w_icmp_ne_t (tgt := 78) dL_act_53 (by decide) hn K))
theorem jb_2 {h0 h : k_H} {a : Nat} {x1 x2 x3 x4 x5 x6 x7 : Int32} {h' : k_H} {r : k_R} (hn : x1 = 2) (K : jwA G l h0 h 56 (lvA a x1 x2 x3 x4 x5 x6 x7) [] h' r) : jwA G l h0 h 51 (lvA a x1 x2 x3 x4 x5 x6 x7) [] h' r := w_iload_n dL_act_51 rfl rfl (w_iconst (v := 2) dL_act_52 (by decide) (w_icmp_ne_f dL_act_53 78 (by decide) hn K))
theorem jt_3 {h0 h : k_H} {a : Nat} {x1 x2 x3 x4 x5 x6 x7 : Int32} {h' : k_H} {r : k_R} (hn : ¬ x1 = 3) (K : jwA G l h0 h 98 (lvA a x1 x2 x3 x4 x5 x6 x7) [] h' r) : jwA G l h0 h 78 (lvA a x1 x2 x3 x4 x5 x6 x7) [] h' r := w_iload_n dL_act_78 rfl rfl (w_iconst (v := 3) dL_act_79 (by decide) (w_icmp_ne_t (tgt := 98) dL_act_80 (by decide) hn K))
theorem jb_3 {h0 h : k_H} {a : Nat} {x1 x2 x3 x4 x5 x6 x7 : Int32} {h' : k_H} {r : k_R} (hn : x1 = 3) (K : jwA G l h0 h 83 (lvA a x1 x2 x3 x4 x5 x6 x7) [] h' r) : jwA G l h0 h 78 (lvA a x1 x2 x3 x4 x5 x6 x7) [] h' r := w_iload_n dL_act_78 rfl rfl (w_iconst (v := 3) dL_act_79 (by decide) (w_icmp_ne_f dL_act_80 98 (by decide) hn K))
theorem jt_4 {h0 h : k_H} {a : Nat} {x1 x2 x3 x4 x5 x6 x7 : Int32} {h' : k_H} {r : k_R} (hn : ¬ x1 = 4) (K : jwA G l h0 h 120 (lvA a x1 x2 x3 x4 x5 x6 x7) [] h' r) : jwA G l h0 h 98 (lvA a x1 x2 x3 x4 x5 x6 x7) [] h' r := w_iload_n dL_act_98 rfl rfl (w_iconst (v := 4) dL_act_99 (by decide) (w_icmp_ne_t (tgt := 120) dL_act_100 (by decide) hn K))
theorem jb_4 {h0 h : k_H} {a : Nat} {x1 x2 x3 x4 x5 x6 x7 : Int32} {h' : k_H} {r : k_R} (hn : x1 = 4) (K : jwA G l h0 h 103 (lvA a x1 x2 x3 x4 x5 x6 x7) [] h' r) : jwA G l h0 h 98 (lvA a x1 x2 x3 x4 x5 x6 x7) [] h' r := w_iload_n dL_act_98 rfl rfl (w_iconst (v := 4) dL_act_99 (by decide) (w_icmp_ne_f dL_act_100 120 (by decide) hn K))
theorem jt_5 {h0 h : k_H} {a : Nat} {x1 x2 x3 x4 x5 x6 x7 : Int32} {h' : k_H} {r : k_R} (hn : ¬ x1 = 5) (K : jwA G l h0 h 136 (lvA a x1 x2 x3 x4 x5 x6 x7) [] h' r) : jwA G l h0 h 120 (lvA a x1 x2 x3 x4 x5 x6 x7) [] h' r := w_iload_n dL_act_120 rfl rfl (w_iconst (v := 5) dL_act_121 (by decide) (w_icmp_ne_t (tgt := 136) dL_act_122 (by decide) hn K))
theorem jb_5 {h0 h : k_H} {a : Nat} {x1 x2 x3 x4 x5 x6 x7 : Int32} {h' : k_H} {r : k_R} (hn : x1 = 5) (K : jwA G l h0 h 125 (lvA a x1 x2 x3 x4 x5 x6 x7) [] h' r) : jwA G l h0 h 120 (lvA a x1 x2 x3 x4 x5 x6 x7) [] h' r := w_iload_n dL_act_120 rfl rfl (w_iconst (v := 5) dL_act_121 (by decide) (w_icmp_ne_f dL_act_122 136 (by decide) hn K))
theorem jt_6 {h0 h : k_H} {a : Nat} {x1 x2 x3 x4 x5 x6 x7 : Int32} {h' : k_H} {r : k_R} (hn : ¬ x1 = 6) (K : jwA G l h0 h 150 (lvA a x1 x2 x3 x4 x5 x6 x7) [] h' r) : jwA G l h0 h 136 (lvA a x1 x2 x3 x4 x5 x6 x7) [] h' r := w_iload_n dL_act_136 rfl rfl (w_bipush (v := 6) dL_act_137 (by decide) (w_icmp_ne_t (tgt := 150) dL_act_139 (by decide) hn K))
theorem jb_6 {h0 h : k_H} {a : Nat} {x1 x2 x3 x4 x5 x6 x7 : Int32} {h' : k_H} {r : k_R} (hn : x1 = 6) (K : jwA G l h0 h 142 (lvA a x1 x2 x3 x4 x5 x6 x7) [] h' r) : jwA G l h0 h 136 (lvA a x1 x2 x3 x4 x5 x6 x7) [] h' r := w_iload_n dL_act_136 rfl rfl (w_bipush (v := 6) dL_act_137 (by decide) (w_icmp_ne_f dL_act_139 150 (by decide) hn K))
theorem jt_7 {h0 h : k_H} {a : Nat} {x1 x2 x3 x4 x5 x6 x7 : Int32} {h' : k_H} {r : k_R} (hn : ¬ x1 = 7) (K : jwA G l h0 h 164 (lvA a x1 x2 x3 x4 x5 x6 x7) [] h' r) : jwA G l h0 h 150 (lvA a x1 x2 x3 x4 x5 x6 x7) [] h' r := w_iload_n dL_act_150 rfl rfl (w_bipush (v := 7) dL_act_151 (by decide) (w_icmp_ne_t (tgt := 164) dL_act_153 (by decide) hn K))
theorem jb_7 {h0 h : k_H} {a : Nat} {x1 x2 x3 x4 x5 x6 x7 : Int32} {h' : k_H} {r : k_R} (hn : x1 = 7) (K : jwA G l h0 h 156 (lvA a x1 x2 x3 x4 x5 x6 x7) [] h' r) : jwA G l h0 h 150 (lvA a x1 x2 x3 x4 x5 x6 x7) [] h' r := w_iload_n dL_act_150 rfl rfl (w_bipush (v := 7) dL_act_151 (by decide) (w_icmp_ne_f dL_act_153 164 (by decide) hn K))
theorem jt_8 {h0 h : k_H} {a : Nat} {x1 x2 x3 x4 x5 x6 x7 : Int32} {h' : k_H} {r : k_R} (hn : ¬ x1 = 8) (K : jwA G l h0 h 183 (lvA a x1 x2 x3 x4 x5 x6 x7) [] h' r) : jwA G l h0 h 164 (lvA a x1 x2 x3 x4 x5 x6 x7) [] h' r := w_iload_n dL_act_164 rfl rfl (w_bipush (v := 8) dL_act_165 (by decide) (w_icmp_ne_t (tgt := 183) dL_act_167 (by decide) hn K))
theorem jb_8 {h0 h : k_H} {a : Nat} {x1 x2 x3 x4 x5 x6 x7 : Int32} {h' : k_H} {r : k_R} (hn : x1 = 8) (K : jwA G l h0 h 170 (lvA a x1 x2 x3 x4 x5 x6 x7) [] h' r) : jwA G l h0 h 164 (lvA a x1 x2 x3 x4 x5 x6 x7) [] h' r := w_iload_n dL_act_164 rfl rfl (w_bipush (v := 8) dL_act_165 (by decide) (w_icmp_ne_f dL_act_167 183 (by decide) hn K))
theorem jt_9 {h0 h : k_H} {a : Nat} {x1 x2 x3 x4 x5 x6 x7 : Int32} {h' : k_H} {r : k_R} (hn : ¬ x1 = 9) (K : jwA G l h0 h 202 (lvA a x1 x2 x3 x4 x5 x6 x7) [] h' r) : jwA G l h0 h 183 (lvA a x1 x2 x3 x4 x5 x6 x7) [] h' r := w_iload_n dL_act_183 rfl rfl (w_bipush (v := 9) dL_act_184 (by decide) (w_icmp_ne_t (tgt := 202) dL_act_186 (by decide) hn K))
theorem jb_9 {h0 h : k_H} {a : Nat} {x1 x2 x3 x4 x5 x6 x7 : Int32} {h' : k_H} {r : k_R} (hn : x1 = 9) (K : jwA G l h0 h 189 (lvA a x1 x2 x3 x4 x5 x6 x7) [] h' r) : jwA G l h0 h 183 (lvA a x1 x2 x3 x4 x5 x6 x7) [] h' r := w_iload_n dL_act_183 rfl rfl (w_bipush (v := 9) dL_act_184 (by decide) (w_icmp_ne_f dL_act_186 202 (by decide) hn K))
theorem jt_10 {h0 h : k_H} {a : Nat} {x1 x2 x3 x4 x5 x6 x7 : Int32} {h' : k_H} {r : k_R} (hn : ¬ x1 = 10) (K : jwA G l h0 h 219 (lvA a x1 x2 x3 x4 x5 x6 x7) [] h' r) : jwA G l h0 h 202 (lvA a x1 x2 x3 x4 x5 x6 x7) [] h' r := w_iload_n dL_act_202 rfl rfl (w_bipush (v := 10) dL_act_203 (by decide) (w_icmp_ne_t (tgt := 219) dL_act_205 (by decide) hn K))
theorem jb_10 {h0 h : k_H} {a : Nat} {x1 x2 x3 x4 x5 x6 x7 : Int32} {h' : k_H} {r : k_R} (hn : x1 = 10) (K : jwA G l h0 h 208 (lvA a x1 x2 x3 x4 x5 x6 x7) [] h' r) : jwA G l h0 h 202 (lvA a x1 x2 x3 x4 x5 x6 x7) [] h' r := w_iload_n dL_act_202 rfl rfl (w_bipush (v := 10) dL_act_203 (by decide) (w_icmp_ne_f dL_act_205 219 (by decide) hn K))
theorem jt_11 {h0 h : k_H} {a : Nat} {x1 x2 x3 x4 x5 x6 x7 : Int32} {h' : k_H} {r : k_R} (hn : ¬ x1 = 11) (K : jwA G l h0 h 234 (lvA a x1 x2 x3 x4 x5 x6 x7) [] h' r) : jwA G l h0 h 219 (lvA a x1 x2 x3 x4 x5 x6 x7) [] h' r := w_iload_n dL_act_219 rfl rfl (w_bipush (v := 11) dL_act_220 (by decide) (w_icmp_ne_t (tgt := 234) dL_act_222 (by decide) hn K))
theorem jb_11 {h0 h : k_H} {a : Nat} {x1 x2 x3 x4 x5 x6 x7 : Int32} {h' : k_H} {r : k_R} (hn : x1 = 11) (K : jwA G l h0 h 225 (lvA a x1 x2 x3 x4 x5 x6 x7) [] h' r) : jwA G l h0 h 219 (lvA a x1 x2 x3 x4 x5 x6 x7) [] h' r := w_iload_n dL_act_219 rfl rfl (w_bipush (v := 11) dL_act_220 (by decide) (w_icmp_ne_f dL_act_222 234 (by decide) hn K))
theorem jt_12 {h0 h : k_H} {a : Nat} {x1 x2 x3 x4 x5 x6 x7 : Int32} {h' : k_H} {r : k_R} (hn : ¬ x1 = 12) (K : jwA G l h0 h 249 (lvA a x1 x2 x3 x4 x5 x6 x7) [] h' r) : jwA G l h0 h 234 (lvA a x1 x2 x3 x4 x5 x6 x7) [] h' r := w_iload_n dL_act_234 rfl rfl (w_bipush (v := 12) dL_act_235 (by decide) (w_icmp_ne_t (tgt := 249) dL_act_237 (by decide) hn K))
theorem jb_12 {h0 h : k_H} {a : Nat} {x1 x2 x3 x4 x5 x6 x7 : Int32} {h' : k_H} {r : k_R} (hn : x1 = 12) (K : jwA G l h0 h 240 (lvA a x1 x2 x3 x4 x5 x6 x7) [] h' r) : jwA G l h0 h 234 (lvA a x1 x2 x3 x4 x5 x6 x7) [] h' r := w_iload_n dL_act_234 rfl rfl (w_bipush (v := 12) dL_act_235 (by decide) (w_icmp_ne_f dL_act_237 249 (by decide) hn K))
theorem jt_13 {h0 h : k_H} {a : Nat} {x1 x2 x3 x4 x5 x6 x7 : Int32} {h' : k_H} {r : k_R} (hn : ¬ x1 = 13) (K : jwA G l h0 h 263 (lvA a x1 x2 x3 x4 x5 x6 x7) [] h' r) : jwA G l h0 h 249 (lvA a x1 x2 x3 x4 x5 x6 x7) [] h' r := w_iload_n dL_act_249 rfl rfl (w_bipush (v := 13) dL_act_250 (by decide) (w_icmp_ne_t (tgt := 263) dL_act_252 (by decide) hn K))
theorem jb_13 {h0 h : k_H} {a : Nat} {x1 x2 x3 x4 x5 x6 x7 : Int32} {h' : k_H} {r : k_R} (hn : x1 = 13) (K : jwA G l h0 h 255 (lvA a x1 x2 x3 x4 x5 x6 x7) [] h' r) : jwA G l h0 h 249 (lvA a x1 x2 x3 x4 x5 x6 x7) [] h' r := w_iload_n dL_act_249 rfl rfl (w_bipush (v := 13) dL_act_250 (by decide) (w_icmp_ne_f dL_act_252 263 (by decide) hn K))
theorem jt_14 {h0 h : k_H} {a : Nat} {x1 x2 x3 x4 x5 x6 x7 : Int32} {h' : k_H} {r : k_R} (hn : ¬ x1 = 14) (K : jwA G l h0 h 277 (lvA a x1 x2 x3 x4 x5 x6 x7) [] h' r) : jwA G l h0 h 263 (lvA a x1 x2 x3 x4 x5 x6 x7) [] h' r := w_iload_n dL_act_263 rfl rfl (w_bipush (v := 14) dL_act_264 (by decide) (w_icmp_ne_t (tgt := 277) dL_act_266 (by decide) hn K))
theorem jb_14 {h0 h : k_H} {a : Nat} {x1 x2 x3 x4 x5 x6 x7 : Int32} {h' : k_H} {r : k_R} (hn : x1 = 14) (K : jwA G l h0 h 269 (lvA a x1 x2 x3 x4 x5 x6 x7) [] h' r) : jwA G l h0 h 263 (lvA a x1 x2 x3 x4 x5 x6 x7) [] h' r := w_iload_n dL_act_263 rfl rfl (w_bipush (v := 14) dL_act_264 (by decide) (w_icmp_ne_f dL_act_266 277 (by decide) hn K))
theorem jt_15 {h0 h : k_H} {a : Nat} {x1 x2 x3 x4 x5 x6 x7 : Int32} {h' : k_H} {r : k_R} (hn : ¬ x1 = 15) (K : jwA G l h0 h 291 (lvA a x1 x2 x3 x4 x5 x6 x7) [] h' r) : jwA G l h0 h 277 (lvA a x1 x2 x3 x4 x5 x6 x7) [] h' r := w_iload_n dL_act_277 rfl rfl (w_bipush (v := 15) dL_act_278 (by decide) (w_icmp_ne_t (tgt := 291) dL_act_280 (by decide) hn K))
theorem jb_15 {h0 h : k_H} {a : Nat} {x1 x2 x3 x4 x5 x6 x7 : Int32} {h' : k_H} {r : k_R} (hn : x1 = 15) (K : jwA G l h0 h 283 (lvA a x1 x2 x3 x4 x5 x6 x7) [] h' r) : jwA G l h0 h 277 (lvA a x1 x2 x3 x4 x5 x6 x7) [] h' r := w_iload_n dL_act_277 rfl rfl (w_bipush (v := 15) dL_act_278 (by decide) (w_icmp_ne_f dL_act_280 291 (by decide) hn K))
theorem jt_16 {h0 h : k_H} {a : Nat} {x1 x2 x3 x4 x5 x6 x7 : Int32} {h' : k_H} {r : k_R} (hn : ¬ x1 = 16) (K : jwA G l h0 h 308 (lvA a x1 x2 x3 x4 x5 x6 x7) [] h' r) : jwA G l h0 h 291 (lvA a x1 x2 x3 x4 x5 x6 x7) [] h' r := w_iload_n dL_act_291 rfl rfl (w_bipush (v := 16) dL_act_292 (by decide) (w_icmp_ne_t (tgt := 308) dL_act_294 (by decide) hn K))
theorem jb_16 {h0 h : k_H} {a : Nat} {x1 x2 x3 x4 x5 x6 x7 : Int32} {h' : k_H} {r : k_R} (hn : x1 = 16) (K : jwA G l h0 h 297 (lvA a x1 x2 x3 x4 x5 x6 x7) [] h' r) : jwA G l h0 h 291 (lvA a x1 x2 x3 x4 x5 x6 x7) [] h' r := w_iload_n dL_act_291 rfl rfl (w_bipush (v := 16) dL_act_292 (by decide) (w_icmp_ne_f dL_act_294 308 (by decide) hn K))
theorem jt_17 {h0 h : k_H} {a : Nat} {x1 x2 x3 x4 x5 x6 x7 : Int32} {h' : k_H} {r : k_R} (hn : ¬ x1 = 17) (K : jwA G l h0 h 322 (lvA a x1 x2 x3 x4 x5 x6 x7) [] h' r) : jwA G l h0 h 308 (lvA a x1 x2 x3 x4 x5 x6 x7) [] h' r := w_iload_n dL_act_308 rfl rfl (w_bipush (v := 17) dL_act_309 (by decide) (w_icmp_ne_t (tgt := 322) dL_act_311 (by decide) hn K))
theorem jb_17 {h0 h : k_H} {a : Nat} {x1 x2 x3 x4 x5 x6 x7 : Int32} {h' : k_H} {r : k_R} (hn : x1 = 17) (K : jwA G l h0 h 314 (lvA a x1 x2 x3 x4 x5 x6 x7) [] h' r) : jwA G l h0 h 308 (lvA a x1 x2 x3 x4 x5 x6 x7) [] h' r := w_iload_n dL_act_308 rfl rfl (w_bipush (v := 17) dL_act_309 (by decide) (w_icmp_ne_f dL_act_311 322 (by decide) hn K))
theorem jt_18 {h0 h : k_H} {a : Nat} {x1 x2 x3 x4 x5 x6 x7 : Int32} {h' : k_H} {r : k_R} (hn : ¬ x1 = 18) (K : jwA G l h0 h 337 (lvA a x1 x2 x3 x4 x5 x6 x7) [] h' r) : jwA G l h0 h 322 (lvA a x1 x2 x3 x4 x5 x6 x7) [] h' r := w_iload_n dL_act_322 rfl rfl (w_bipush (v := 18) dL_act_323 (by decide) (w_icmp_ne_t (tgt := 337) dL_act_325 (by decide) hn K))
theorem jb_18 {h0 h : k_H} {a : Nat} {x1 x2 x3 x4 x5 x6 x7 : Int32} {h' : k_H} {r : k_R} (hn : x1 = 18) (K : jwA G l h0 h 328 (lvA a x1 x2 x3 x4 x5 x6 x7) [] h' r) : jwA G l h0 h 322 (lvA a x1 x2 x3 x4 x5 x6 x7) [] h' r := w_iload_n dL_act_322 rfl rfl (w_bipush (v := 18) dL_act_323 (by decide) (w_icmp_ne_f dL_act_325 337 (by decide) hn K))
theorem jt_19 {h0 h : k_H} {a : Nat} {x1 x2 x3 x4 x5 x6 x7 : Int32} {h' : k_H} {r : k_R} (hn : ¬ x1 = 19) (K : jwA G l h0 h 351 (lvA a x1 x2 x3 x4 x5 x6 x7) [] h' r) : jwA G l h0 h 337 (lvA a x1 x2 x3 x4 x5 x6 x7) [] h' r := w_iload_n dL_act_337 rfl rfl (w_bipush (v := 19) dL_act_338 (by decide) (w_icmp_ne_t (tgt := 351) dL_act_340 (by decide) hn K))
theorem jb_19 {h0 h : k_H} {a : Nat} {x1 x2 x3 x4 x5 x6 x7 : Int32} {h' : k_H} {r : k_R} (hn : x1 = 19) (K : jwA G l h0 h 343 (lvA a x1 x2 x3 x4 x5 x6 x7) [] h' r) : jwA G l h0 h 337 (lvA a x1 x2 x3 x4 x5 x6 x7) [] h' r := w_iload_n dL_act_337 rfl rfl (w_bipush (v := 19) dL_act_338 (by decide) (w_icmp_ne_f dL_act_340 351 (by decide) hn K))
theorem jt_20 {h0 h : k_H} {a : Nat} {x1 x2 x3 x4 x5 x6 x7 : Int32} {h' : k_H} {r : k_R} (hn : ¬ x1 = 20) (K : jwA G l h0 h 365 (lvA a x1 x2 x3 x4 x5 x6 x7) [] h' r) : jwA G l h0 h 351 (lvA a x1 x2 x3 x4 x5 x6 x7) [] h' r := w_iload_n dL_act_351 rfl rfl (w_bipush (v := 20) dL_act_352 (by decide) (w_icmp_ne_t (tgt := 365) dL_act_354 (by decide) hn K))
theorem jb_20 {h0 h : k_H} {a : Nat} {x1 x2 x3 x4 x5 x6 x7 : Int32} {h' : k_H} {r : k_R} (hn : x1 = 20) (K : jwA G l h0 h 357 (lvA a x1 x2 x3 x4 x5 x6 x7) [] h' r) : jwA G l h0 h 351 (lvA a x1 x2 x3 x4 x5 x6 x7) [] h' r := w_iload_n dL_act_351 rfl rfl (w_bipush (v := 20) dL_act_352 (by decide) (w_icmp_ne_f dL_act_354 365 (by decide) hn K))
theorem jt_21 {h0 h : k_H} {a : Nat} {x1 x2 x3 x4 x5 x6 x7 : Int32} {h' : k_H} {r : k_R} (hn : ¬ x1 = 21) (K : jwA G l h0 h 380 (lvA a x1 x2 x3 x4 x5 x6 x7) [] h' r) : jwA G l h0 h 365 (lvA a x1 x2 x3 x4 x5 x6 x7) [] h' r := w_iload_n dL_act_365 rfl rfl (w_bipush (v := 21) dL_act_366 (by decide) (w_icmp_ne_t (tgt := 380) dL_act_368 (by decide) hn K))
theorem jb_21 {h0 h : k_H} {a : Nat} {x1 x2 x3 x4 x5 x6 x7 : Int32} {h' : k_H} {r : k_R} (hn : x1 = 21) (K : jwA G l h0 h 371 (lvA a x1 x2 x3 x4 x5 x6 x7) [] h' r) : jwA G l h0 h 365 (lvA a x1 x2 x3 x4 x5 x6 x7) [] h' r := w_iload_n dL_act_365 rfl rfl (w_bipush (v := 21) dL_act_366 (by decide) (w_icmp_ne_f dL_act_368 380 (by decide) hn K))
theorem jt_22 {h0 h : k_H} {a : Nat} {x1 x2 x3 x4 x5 x6 x7 : Int32} {h' : k_H} {r : k_R} (hn : ¬ x1 = 22) (K : jwA G l h0 h 393 (lvA a x1 x2 x3 x4 x5 x6 x7) [] h' r) : jwA G l h0 h 380 (lvA a x1 x2 x3 x4 x5 x6 x7) [] h' r := w_iload_n dL_act_380 rfl rfl (w_bipush (v := 22) dL_act_381 (by decide) (w_icmp_ne_t (tgt := 393) dL_act_383 (by decide) hn K))
theorem jb_22 {h0 h : k_H} {a : Nat} {x1 x2 x3 x4 x5 x6 x7 : Int32} {h' : k_H} {r : k_R} (hn : x1 = 22) (K : jwA G l h0 h 386 (lvA a x1 x2 x3 x4 x5 x6 x7) [] h' r) : jwA G l h0 h 380 (lvA a x1 x2 x3 x4 x5 x6 x7) [] h' r := w_iload_n dL_act_380 rfl rfl (w_bipush (v := 22) dL_act_381 (by decide) (w_icmp_ne_f dL_act_383 393 (by decide) hn K))
theorem jt_23 {h0 h : k_H} {a : Nat} {x1 x2 x3 x4 x5 x6 x7 : Int32} {h' : k_H} {r : k_R} (hn : ¬ x1 = 23) (K : jwA G l h0 h 407 (lvA a x1 x2 x3 x4 x5 x6 x7) [] h' r) : jwA G l h0 h 393 (lvA a x1 x2 x3 x4 x5 x6 x7) [] h' r := w_iload_n dL_act_393 rfl rfl (w_bipush (v := 23) dL_act_394 (by decide) (w_icmp_ne_t (tgt := 407) dL_act_396 (by decide) hn K))
theorem jb_23 {h0 h : k_H} {a : Nat} {x1 x2 x3 x4 x5 x6 x7 : Int32} {h' : k_H} {r : k_R} (hn : x1 = 23) (K : jwA G l h0 h 399 (lvA a x1 x2 x3 x4 x5 x6 x7) [] h' r) : jwA G l h0 h 393 (lvA a x1 x2 x3 x4 x5 x6 x7) [] h' r := w_iload_n dL_act_393 rfl rfl (w_bipush (v := 23) dL_act_394 (by decide) (w_icmp_ne_f dL_act_396 407 (by decide) hn K))
theorem jt_24 {h0 h : k_H} {a : Nat} {x1 x2 x3 x4 x5 x6 x7 : Int32} {h' : k_H} {r : k_R} (hn : ¬ x1 = 24) (K : jwA G l h0 h 422 (lvA a x1 x2 x3 x4 x5 x6 x7) [] h' r) : jwA G l h0 h 407 (lvA a x1 x2 x3 x4 x5 x6 x7) [] h' r := w_iload_n dL_act_407 rfl rfl (w_bipush (v := 24) dL_act_408 (by decide) (w_icmp_ne_t (tgt := 422) dL_act_410 (by decide) hn K))
theorem jb_24 {h0 h : k_H} {a : Nat} {x1 x2 x3 x4 x5 x6 x7 : Int32} {h' : k_H} {r : k_R} (hn : x1 = 24) (K : jwA G l h0 h 413 (lvA a x1 x2 x3 x4 x5 x6 x7) [] h' r) : jwA G l h0 h 407 (lvA a x1 x2 x3 x4 x5 x6 x7) [] h' r := w_iload_n dL_act_407 rfl rfl (w_bipush (v := 24) dL_act_408 (by decide) (w_icmp_ne_f dL_act_410 422 (by decide) hn K))
theorem jt_25 {h0 h : k_H} {a : Nat} {x1 x2 x3 x4 x5 x6 x7 : Int32} {h' : k_H} {r : k_R} (hn : ¬ x1 = 25) (K : jwA G l h0 h 436 (lvA a x1 x2 x3 x4 x5 x6 x7) [] h' r) : jwA G l h0 h 422 (lvA a x1 x2 x3 x4 x5 x6 x7) [] h' r := w_iload_n dL_act_422 rfl rfl (w_bipush (v := 25) dL_act_423 (by decide) (w_icmp_ne_t (tgt := 436) dL_act_425 (by decide) hn K))
theorem jb_25 {h0 h : k_H} {a : Nat} {x1 x2 x3 x4 x5 x6 x7 : Int32} {h' : k_H} {r : k_R} (hn : x1 = 25) (K : jwA G l h0 h 428 (lvA a x1 x2 x3 x4 x5 x6 x7) [] h' r) : jwA G l h0 h 422 (lvA a x1 x2 x3 x4 x5 x6 x7) [] h' r := w_iload_n dL_act_422 rfl rfl (w_bipush (v := 25) dL_act_423 (by decide) (w_icmp_ne_f dL_act_425 436 (by decide) hn K))
theorem jt_26 {h0 h : k_H} {a : Nat} {x1 x2 x3 x4 x5 x6 x7 : Int32} {h' : k_H} {r : k_R} (hn : ¬ x1 = 26) (K : jwA G l h0 h 450 (lvA a x1 x2 x3 x4 x5 x6 x7) [] h' r) : jwA G l h0 h 436 (lvA a x1 x2 x3 x4 x5 x6 x7) [] h' r := w_iload_n dL_act_436 rfl rfl (w_bipush (v := 26) dL_act_437 (by decide) (w_icmp_ne_t (tgt := 450) dL_act_439 (by decide) hn K))
theorem jb_26 {h0 h : k_H} {a : Nat} {x1 x2 x3 x4 x5 x6 x7 : Int32} {h' : k_H} {r : k_R} (hn : x1 = 26) (K : jwA G l h0 h 442 (lvA a x1 x2 x3 x4 x5 x6 x7) [] h' r) : jwA G l h0 h 436 (lvA a x1 x2 x3 x4 x5 x6 x7) [] h' r := w_iload_n dL_act_436 rfl rfl (w_bipush (v := 26) dL_act_437 (by decide) (w_icmp_ne_f dL_act_439 450 (by decide) hn K))
theorem jc_0 {h0 h : k_H} {a : Nat} {x1 x2 x3 x4 x5 x6 x7 : Int32} {R : s_M × Nat × Int32} {X : Nat → String} {P : k_H → Prop} (ho : k_is h a 14) (hX : R.2.1 = 0 ∨ X R.2.1 = x_IO ∨ X R.2.1 = x_IA ∨ X R.2.1 = x_IS) (C : k_ct (tX11_begin G l) [vR (some a), vI x2, vI (kB (decide (x3 = 1)))] h (fun H' r => P H' ∧ r = lp_r R X)) : ∃ h', jwA G l h0 h 16 (lvA a x1 x2 x3 x4 x5 x6 x7) [vI (kB (decide (x3 = 1))), vI x2, vR (some a)] h' (.inl (some (vI (lp_code R X)))) ∧ P h' := by
  obtain ⟨h1, r, C, p, rfl⟩ := C
  refine ⟨h1, ?_, p⟩
  unfold lp_r at C
  unfold lp_code
  by_cases e0 : R.2.1 = 0
  · rw [if_pos e0] at C
    rw [if_pos e0]
    exact w_callV dL_act_16 kc_L_9 rfl rfl ho (by decide) (Nat.le_of_ble_eq_true rfl) C (w_goto (tgt := 456) dL_act_19 (by decide) (w_iret dL_act_456 rfl))
  · rw [if_neg e0] at C
    rw [if_neg e0]
    rcases hX with hX | hX | hX | hX
    · exact absurd hX e0
    · rw [hX] at C ⊢
      rw [if_pos rfl]
      exact w_callVx [] (⟨0, 456, 457, 105⟩ : ExceptionTableEntry) [(⟨0, 456, 462, 108⟩ : ExceptionTableEntry), (⟨0, 456, 467, 111⟩ : ExceptionTableEntry)] rfl (fun z hz => by cases hz) rfl (by decide) kx_L_105 (by decide +kernel) dL_act_16 kc_L_9 rfl rfl ho (by decide) (Nat.le_of_ble_eq_true rfl) C (fun q => jh_0)
    · rw [hX] at C ⊢
      rw [if_neg (by decide), if_pos rfl]
      exact w_callVx [(⟨0, 456, 457, 105⟩ : ExceptionTableEntry)] (⟨0, 456, 462, 108⟩ : ExceptionTableEntry) [(⟨0, 456, 467, 111⟩ : ExceptionTableEntry)] rfl (fun z hz => by
      simp only [List.mem_cons, List.not_mem_nil, or_false] at hz
      rcases hz with rfl
      · exact ⟨by decide, _, kx_L_105, by decide +kernel⟩) rfl (by decide) kx_L_108 (by decide +kernel) dL_act_16 kc_L_9 rfl rfl ho (by decide) (Nat.le_of_ble_eq_true rfl) C (fun q => jh_1)
    · rw [hX] at C ⊢
      rw [if_neg (by decide), if_neg (by decide)]
      exact w_callVx [(⟨0, 456, 457, 105⟩ : ExceptionTableEntry), (⟨0, 456, 462, 108⟩ : ExceptionTableEntry)] (⟨0, 456, 467, 111⟩ : ExceptionTableEntry) [] rfl (fun z hz => by
      simp only [List.mem_cons, List.not_mem_nil, or_false] at hz
      rcases hz with rfl | rfl
      · exact ⟨by decide, _, kx_L_105, by decide +kernel⟩
      · exact ⟨by decide, _, kx_L_108, by decide +kernel⟩) rfl (by decide) kx_L_111 (by decide +kernel) dL_act_16 kc_L_9 rfl rfl ho (by decide) (Nat.le_of_ble_eq_true rfl) C (fun q => jh_2)
theorem jl_0 {h0 h : k_H} {a : Nat} {x1 x2 x3 x4 x5 x6 x7 : Int32} {h' : k_H} {r : k_R} (J : jwA G l h0 h 16 (lvA a x1 x2 x3 x4 x5 x6 x7) [vI (kB (decide (x3 = 1))), vI x2, vR (some a)] h' r) : jwA G l h0 h 4 (lvA a x1 x2 x3 x4 x5 x6 x7) [] h' r := by
  by_cases hb : x3 = 1
  · rw [decide_eq_true hb] at J
    exact w_aload_n dL_act_4 rfl rfl (w_iload_n dL_act_5 rfl rfl (w_iload_n dL_act_6 rfl rfl (w_iconst (v := 1) dL_act_7 (by decide) (w_icmp_ne_f dL_act_8 15 (by decide) hb (w_iconst (v := 1) dL_act_11 (by decide) (w_goto (tgt := 16) dL_act_12 (by decide) J))))))
  · rw [decide_eq_false hb] at J
    exact w_aload_n dL_act_4 rfl rfl (w_iload_n dL_act_5 rfl rfl (w_iload_n dL_act_6 rfl rfl (w_iconst (v := 1) dL_act_7 (by decide) (w_icmp_ne_t (tgt := 15) dL_act_8 (by decide) hb (w_iconst (v := 0) dL_act_15 (by decide) J)))))
theorem t_act_0 (hfl : l.flags = flags0) {h : k_H} {a : Nat} {x2 x3 x4 x5 x6 x7 : Int32} {R : s_M × Nat × Int32} {X : Nat → String} {P : k_H → Prop} (ho : k_is h a 14) (hX : R.2.1 = 0 ∨ X R.2.1 = x_IO ∨ X R.2.1 = x_IA ∨ X R.2.1 = x_IS) (C : k_ct (tX11_begin G l) [vR (some a), vI x2, vI (kB (decide (x3 = 1)))] h (fun H' r => P H' ∧ r = lp_r R X)) : k_cti (tL_act G l) [vR (some a), vI 0, vI x2, vI x3, vI x4, vI x5, vI x6, vI x7] h (fun H' v => P H' ∧ v = lp_code R X) := by
  obtain ⟨h1, J, p⟩ := jc_0 (h0 := h) (x1 := 0) ho hX C
  exact ⟨h1, _, k_CwOf (by decide +kernel) (Nat.le_of_ble_eq_true rfl) (jb_0 rfl (jl_0 J)) hfl, p, rfl⟩
theorem jc_1 {h0 h : k_H} {a : Nat} {x1 x2 x3 x4 x5 x6 x7 : Int32} {R : s_M × Nat × Int32} {X : Nat → String} {P : k_H → Prop} (ho : k_is h a 14) (hX : R.2.1 = 0 ∨ X R.2.1 = x_IO ∨ X R.2.1 = x_IA ∨ X R.2.1 = x_IS) (C : k_ct (tX11_get G l) [vR (some a), vI x2, vI x3, vI x4, vI x5, vI (kB (decide (x6 = 1)))] h (fun H' r => P H' ∧ r = lp_r R X)) : ∃ h', jwA G l h0 h 45 (lvA a x1 x2 x3 x4 x5 x6 x7) [vI (kB (decide (x6 = 1))), vI x5, vI x4, vI x3, vI x2, vR (some a)] h' (.inl (some (vI (lp_code R X)))) ∧ P h' := by
  obtain ⟨h1, r, C, p, rfl⟩ := C
  refine ⟨h1, ?_, p⟩
  unfold lp_r at C
  unfold lp_code
  by_cases e0 : R.2.1 = 0
  · rw [if_pos e0] at C
    rw [if_pos e0]
    exact w_callV dL_act_45 kc_L_15 rfl rfl ho (by decide) (Nat.le_of_ble_eq_true rfl) C (w_goto (tgt := 456) dL_act_48 (by decide) (w_iret dL_act_456 rfl))
  · rw [if_neg e0] at C
    rw [if_neg e0]
    rcases hX with hX | hX | hX | hX
    · exact absurd hX e0
    · rw [hX] at C ⊢
      rw [if_pos rfl]
      exact w_callVx [] (⟨0, 456, 457, 105⟩ : ExceptionTableEntry) [(⟨0, 456, 462, 108⟩ : ExceptionTableEntry), (⟨0, 456, 467, 111⟩ : ExceptionTableEntry)] rfl (fun z hz => by cases hz) rfl (by decide) kx_L_105 (by decide +kernel) dL_act_45 kc_L_15 rfl rfl ho (by decide) (Nat.le_of_ble_eq_true rfl) C (fun q => jh_0)
    · rw [hX] at C ⊢
      rw [if_neg (by decide), if_pos rfl]
      exact w_callVx [(⟨0, 456, 457, 105⟩ : ExceptionTableEntry)] (⟨0, 456, 462, 108⟩ : ExceptionTableEntry) [(⟨0, 456, 467, 111⟩ : ExceptionTableEntry)] rfl (fun z hz => by
      simp only [List.mem_cons, List.not_mem_nil, or_false] at hz
      rcases hz with rfl
      · exact ⟨by decide, _, kx_L_105, by decide +kernel⟩) rfl (by decide) kx_L_108 (by decide +kernel) dL_act_45 kc_L_15 rfl rfl ho (by decide) (Nat.le_of_ble_eq_true rfl) C (fun q => jh_1)
    · rw [hX] at C ⊢
      rw [if_neg (by decide), if_neg (by decide)]
      exact w_callVx [(⟨0, 456, 457, 105⟩ : ExceptionTableEntry), (⟨0, 456, 462, 108⟩ : ExceptionTableEntry)] (⟨0, 456, 467, 111⟩ : ExceptionTableEntry) [] rfl (fun z hz => by
      simp only [List.mem_cons, List.not_mem_nil, or_false] at hz
      rcases hz with rfl | rfl
      · exact ⟨by decide, _, kx_L_105, by decide +kernel⟩
      · exact ⟨by decide, _, kx_L_108, by decide +kernel⟩) rfl (by decide) kx_L_111 (by decide +kernel) dL_act_45 kc_L_15 rfl rfl ho (by decide) (Nat.le_of_ble_eq_true rfl) C (fun q => jh_2)
theorem jl_1 {h0 h : k_H} {a : Nat} {x1 x2 x3 x4 x5 x6 x7 : Int32} {h' : k_H} {r : k_R} (J : jwA G l h0 h 45 (lvA a x1 x2 x3 x4 x5 x6 x7) [vI (kB (decide (x6 = 1))), vI x5, vI x4, vI x3, vI x2, vR (some a)] h' r) : jwA G l h0 h 27 (lvA a x1 x2 x3 x4 x5 x6 x7) [] h' r := by
  by_cases hb : x6 = 1
  · rw [decide_eq_true hb] at J
    exact w_aload_n dL_act_27 rfl rfl (w_iload_n dL_act_28 rfl rfl (w_iload_n dL_act_29 rfl rfl (w_iload dL_act_30 rfl (w_iload dL_act_32 rfl (w_iload dL_act_34 rfl (w_iconst (v := 1) dL_act_36 (by decide) (w_icmp_ne_f dL_act_37 44 (by decide) hb (w_iconst (v := 1) dL_act_40 (by decide) (w_goto (tgt := 45) dL_act_41 (by decide) J)))))))))
  · rw [decide_eq_false hb] at J
    exact w_aload_n dL_act_27 rfl rfl (w_iload_n dL_act_28 rfl rfl (w_iload_n dL_act_29 rfl rfl (w_iload dL_act_30 rfl (w_iload dL_act_32 rfl (w_iload dL_act_34 rfl (w_iconst (v := 1) dL_act_36 (by decide) (w_icmp_ne_t (tgt := 44) dL_act_37 (by decide) hb (w_iconst (v := 0) dL_act_44 (by decide) J))))))))
theorem t_act_1 (hfl : l.flags = flags0) {h : k_H} {a : Nat} {x2 x3 x4 x5 x6 x7 : Int32} {R : s_M × Nat × Int32} {X : Nat → String} {P : k_H → Prop} (ho : k_is h a 14) (hX : R.2.1 = 0 ∨ X R.2.1 = x_IO ∨ X R.2.1 = x_IA ∨ X R.2.1 = x_IS) (C : k_ct (tX11_get G l) [vR (some a), vI x2, vI x3, vI x4, vI x5, vI (kB (decide (x6 = 1)))] h (fun H' r => P H' ∧ r = lp_r R X)) : k_cti (tL_act G l) [vR (some a), vI 1, vI x2, vI x3, vI x4, vI x5, vI x6, vI x7] h (fun H' v => P H' ∧ v = lp_code R X) := by
  obtain ⟨h1, J, p⟩ := jc_1 (h0 := h) (x1 := 1) ho hX C
  exact ⟨h1, _, k_CwOf (by decide +kernel) (Nat.le_of_ble_eq_true rfl) (jt_0 (by decide) (jb_1 rfl (jl_1 J))) hfl, p, rfl⟩
theorem jc_2 {h0 h : k_H} {a : Nat} {x1 x2 x3 x4 x5 x6 x7 : Int32} {R : s_M × Nat × Int32} {X : Nat → String} {P : k_H → Prop} (ho : k_is h a 14) (hX : R.2.1 = 0 ∨ X R.2.1 = x_IO ∨ X R.2.1 = x_IA ∨ X R.2.1 = x_IS) (C : k_ct (tX11_range G l) [vR (some a), vI x2, vI x3, vI x4, vI (kB (decide (x5 = 1)))] h (fun H' r => P H' ∧ r = lp_r R X)) : ∃ h', jwA G l h0 h 72 (lvA a x1 x2 x3 x4 x5 x6 x7) [vI (kB (decide (x5 = 1))), vI x4, vI x3, vI x2, vR (some a)] h' (.inl (some (vI (lp_code R X)))) ∧ P h' := by
  obtain ⟨h1, r, C, p, rfl⟩ := C
  refine ⟨h1, ?_, p⟩
  unfold lp_r at C
  unfold lp_code
  by_cases e0 : R.2.1 = 0
  · rw [if_pos e0] at C
    rw [if_pos e0]
    exact w_callV dL_act_72 kc_L_19 rfl rfl ho (by decide) (Nat.le_of_ble_eq_true rfl) C (w_goto (tgt := 456) dL_act_75 (by decide) (w_iret dL_act_456 rfl))
  · rw [if_neg e0] at C
    rw [if_neg e0]
    rcases hX with hX | hX | hX | hX
    · exact absurd hX e0
    · rw [hX] at C ⊢
      rw [if_pos rfl]
      exact w_callVx [] (⟨0, 456, 457, 105⟩ : ExceptionTableEntry) [(⟨0, 456, 462, 108⟩ : ExceptionTableEntry), (⟨0, 456, 467, 111⟩ : ExceptionTableEntry)] rfl (fun z hz => by cases hz) rfl (by decide) kx_L_105 (by decide +kernel) dL_act_72 kc_L_19 rfl rfl ho (by decide) (Nat.le_of_ble_eq_true rfl) C (fun q => jh_0)
    · rw [hX] at C ⊢
      rw [if_neg (by decide), if_pos rfl]
      exact w_callVx [(⟨0, 456, 457, 105⟩ : ExceptionTableEntry)] (⟨0, 456, 462, 108⟩ : ExceptionTableEntry) [(⟨0, 456, 467, 111⟩ : ExceptionTableEntry)] rfl (fun z hz => by
      simp only [List.mem_cons, List.not_mem_nil, or_false] at hz
      rcases hz with rfl
      · exact ⟨by decide, _, kx_L_105, by decide +kernel⟩) rfl (by decide) kx_L_108 (by decide +kernel) dL_act_72 kc_L_19 rfl rfl ho (by decide) (Nat.le_of_ble_eq_true rfl) C (fun q => jh_1)
    · rw [hX] at C ⊢
      rw [if_neg (by decide), if_neg (by decide)]
      exact w_callVx [(⟨0, 456, 457, 105⟩ : ExceptionTableEntry), (⟨0, 456, 462, 108⟩ : ExceptionTableEntry)] (⟨0, 456, 467, 111⟩ : ExceptionTableEntry) [] rfl (fun z hz => by
      simp only [List.mem_cons, List.not_mem_nil, or_false] at hz
      rcases hz with rfl | rfl
      · exact ⟨by decide, _, kx_L_105, by decide +kernel⟩
      · exact ⟨by decide, _, kx_L_108, by decide +kernel⟩) rfl (by decide) kx_L_111 (by decide +kernel) dL_act_72 kc_L_19 rfl rfl ho (by decide) (Nat.le_of_ble_eq_true rfl) C (fun q => jh_2)
theorem jl_2 {h0 h : k_H} {a : Nat} {x1 x2 x3 x4 x5 x6 x7 : Int32} {h' : k_H} {r : k_R} (J : jwA G l h0 h 72 (lvA a x1 x2 x3 x4 x5 x6 x7) [vI (kB (decide (x5 = 1))), vI x4, vI x3, vI x2, vR (some a)] h' r) : jwA G l h0 h 56 (lvA a x1 x2 x3 x4 x5 x6 x7) [] h' r := by
  by_cases hb : x5 = 1
  · rw [decide_eq_true hb] at J
    exact w_aload_n dL_act_56 rfl rfl (w_iload_n dL_act_57 rfl rfl (w_iload_n dL_act_58 rfl rfl (w_iload dL_act_59 rfl (w_iload dL_act_61 rfl (w_iconst (v := 1) dL_act_63 (by decide) (w_icmp_ne_f dL_act_64 71 (by decide) hb (w_iconst (v := 1) dL_act_67 (by decide) (w_goto (tgt := 72) dL_act_68 (by decide) J))))))))
  · rw [decide_eq_false hb] at J
    exact w_aload_n dL_act_56 rfl rfl (w_iload_n dL_act_57 rfl rfl (w_iload_n dL_act_58 rfl rfl (w_iload dL_act_59 rfl (w_iload dL_act_61 rfl (w_iconst (v := 1) dL_act_63 (by decide) (w_icmp_ne_t (tgt := 71) dL_act_64 (by decide) hb (w_iconst (v := 0) dL_act_71 (by decide) J)))))))
theorem t_act_2 (hfl : l.flags = flags0) {h : k_H} {a : Nat} {x2 x3 x4 x5 x6 x7 : Int32} {R : s_M × Nat × Int32} {X : Nat → String} {P : k_H → Prop} (ho : k_is h a 14) (hX : R.2.1 = 0 ∨ X R.2.1 = x_IO ∨ X R.2.1 = x_IA ∨ X R.2.1 = x_IS) (C : k_ct (tX11_range G l) [vR (some a), vI x2, vI x3, vI x4, vI (kB (decide (x5 = 1)))] h (fun H' r => P H' ∧ r = lp_r R X)) : k_cti (tL_act G l) [vR (some a), vI 2, vI x2, vI x3, vI x4, vI x5, vI x6, vI x7] h (fun H' v => P H' ∧ v = lp_code R X) := by
  obtain ⟨h1, J, p⟩ := jc_2 (h0 := h) (x1 := 2) ho hX C
  exact ⟨h1, _, k_CwOf (by decide +kernel) (Nat.le_of_ble_eq_true rfl) (jt_0 (by decide) (jt_1 (by decide) (jb_2 rfl (jl_2 J)))) hfl, p, rfl⟩
theorem jc_3 {h0 h : k_H} {a : Nat} {x1 x2 x3 x4 x5 x6 x7 : Int32} {R : s_M × Nat × Int32} {X : Nat → String} {P : k_H → Prop} (ho : k_is h a 14) (hX : R.2.1 = 0 ∨ X R.2.1 = x_IO ∨ X R.2.1 = x_IA ∨ X R.2.1 = x_IS) (C : k_ct (tX11_rangeAt G l) [vR (some a), vI x2, vI x3, vI x4, vI x5, vI x6] h (fun H' r => P H' ∧ r = lp_r R X)) : ∃ h', jwA G l h0 h 92 (lvA a x1 x2 x3 x4 x5 x6 x7) [vI x6, vI x5, vI x4, vI x3, vI x2, vR (some a)] h' (.inl (some (vI (lp_code R X)))) ∧ P h' := by
  obtain ⟨h1, r, C, p, rfl⟩ := C
  refine ⟨h1, ?_, p⟩
  unfold lp_r at C
  unfold lp_code
  by_cases e0 : R.2.1 = 0
  · rw [if_pos e0] at C
    rw [if_pos e0]
    exact w_callV dL_act_92 kc_L_23 rfl rfl ho (by decide) (Nat.le_of_ble_eq_true rfl) C (w_goto (tgt := 456) dL_act_95 (by decide) (w_iret dL_act_456 rfl))
  · rw [if_neg e0] at C
    rw [if_neg e0]
    rcases hX with hX | hX | hX | hX
    · exact absurd hX e0
    · rw [hX] at C ⊢
      rw [if_pos rfl]
      exact w_callVx [] (⟨0, 456, 457, 105⟩ : ExceptionTableEntry) [(⟨0, 456, 462, 108⟩ : ExceptionTableEntry), (⟨0, 456, 467, 111⟩ : ExceptionTableEntry)] rfl (fun z hz => by cases hz) rfl (by decide) kx_L_105 (by decide +kernel) dL_act_92 kc_L_23 rfl rfl ho (by decide) (Nat.le_of_ble_eq_true rfl) C (fun q => jh_0)
    · rw [hX] at C ⊢
      rw [if_neg (by decide), if_pos rfl]
      exact w_callVx [(⟨0, 456, 457, 105⟩ : ExceptionTableEntry)] (⟨0, 456, 462, 108⟩ : ExceptionTableEntry) [(⟨0, 456, 467, 111⟩ : ExceptionTableEntry)] rfl (fun z hz => by
      simp only [List.mem_cons, List.not_mem_nil, or_false] at hz
      rcases hz with rfl
      · exact ⟨by decide, _, kx_L_105, by decide +kernel⟩) rfl (by decide) kx_L_108 (by decide +kernel) dL_act_92 kc_L_23 rfl rfl ho (by decide) (Nat.le_of_ble_eq_true rfl) C (fun q => jh_1)
    · rw [hX] at C ⊢
      rw [if_neg (by decide), if_neg (by decide)]
      exact w_callVx [(⟨0, 456, 457, 105⟩ : ExceptionTableEntry), (⟨0, 456, 462, 108⟩ : ExceptionTableEntry)] (⟨0, 456, 467, 111⟩ : ExceptionTableEntry) [] rfl (fun z hz => by
      simp only [List.mem_cons, List.not_mem_nil, or_false] at hz
      rcases hz with rfl | rfl
      · exact ⟨by decide, _, kx_L_105, by decide +kernel⟩
      · exact ⟨by decide, _, kx_L_108, by decide +kernel⟩) rfl (by decide) kx_L_111 (by decide +kernel) dL_act_92 kc_L_23 rfl rfl ho (by decide) (Nat.le_of_ble_eq_true rfl) C (fun q => jh_2)
theorem jl_3 {h0 h : k_H} {a : Nat} {x1 x2 x3 x4 x5 x6 x7 : Int32} {h' : k_H} {r : k_R} (J : jwA G l h0 h 92 (lvA a x1 x2 x3 x4 x5 x6 x7) [vI x6, vI x5, vI x4, vI x3, vI x2, vR (some a)] h' r) : jwA G l h0 h 83 (lvA a x1 x2 x3 x4 x5 x6 x7) [] h' r := w_aload_n dL_act_83 rfl rfl (w_iload_n dL_act_84 rfl rfl (w_iload_n dL_act_85 rfl rfl (w_iload dL_act_86 rfl (w_iload dL_act_88 rfl (w_iload dL_act_90 rfl J)))))
theorem t_act_3 (hfl : l.flags = flags0) {h : k_H} {a : Nat} {x2 x3 x4 x5 x6 x7 : Int32} {R : s_M × Nat × Int32} {X : Nat → String} {P : k_H → Prop} (ho : k_is h a 14) (hX : R.2.1 = 0 ∨ X R.2.1 = x_IO ∨ X R.2.1 = x_IA ∨ X R.2.1 = x_IS) (C : k_ct (tX11_rangeAt G l) [vR (some a), vI x2, vI x3, vI x4, vI x5, vI x6] h (fun H' r => P H' ∧ r = lp_r R X)) : k_cti (tL_act G l) [vR (some a), vI 3, vI x2, vI x3, vI x4, vI x5, vI x6, vI x7] h (fun H' v => P H' ∧ v = lp_code R X) := by
  obtain ⟨h1, J, p⟩ := jc_3 (h0 := h) (x1 := 3) ho hX C
  exact ⟨h1, _, k_CwOf (by decide +kernel) (Nat.le_of_ble_eq_true rfl) (jt_0 (by decide) (jt_1 (by decide) (jt_2 (by decide) (jb_3 rfl (jl_3 J))))) hfl, p, rfl⟩
theorem jc_4 {h0 h : k_H} {a : Nat} {x1 x2 x3 x4 x5 x6 x7 : Int32} {R : s_M × Nat × Int32} {X : Nat → String} {P : k_H → Prop} (ho : k_is h a 14) (hX : R.2.1 = 0 ∨ X R.2.1 = x_IO ∨ X R.2.1 = x_IA ∨ X R.2.1 = x_IS) (C : k_ct (tX11_change G l) [vR (some a), vI x2, vI x3, vI x4, vI x5, vI x6, vI x7] h (fun H' r => P H' ∧ r = lp_r R X)) : ∃ h', jwA G l h0 h 114 (lvA a x1 x2 x3 x4 x5 x6 x7) [vI x7, vI x6, vI x5, vI x4, vI x3, vI x2, vR (some a)] h' (.inl (some (vI (lp_code R X)))) ∧ P h' := by
  obtain ⟨h1, r, C, p, rfl⟩ := C
  refine ⟨h1, ?_, p⟩
  unfold lp_r at C
  unfold lp_code
  by_cases e0 : R.2.1 = 0
  · rw [if_pos e0] at C
    rw [if_pos e0]
    exact w_callV dL_act_114 kc_L_27 rfl rfl ho (by decide) (Nat.le_of_ble_eq_true rfl) C (w_goto (tgt := 456) dL_act_117 (by decide) (w_iret dL_act_456 rfl))
  · rw [if_neg e0] at C
    rw [if_neg e0]
    rcases hX with hX | hX | hX | hX
    · exact absurd hX e0
    · rw [hX] at C ⊢
      rw [if_pos rfl]
      exact w_callVx [] (⟨0, 456, 457, 105⟩ : ExceptionTableEntry) [(⟨0, 456, 462, 108⟩ : ExceptionTableEntry), (⟨0, 456, 467, 111⟩ : ExceptionTableEntry)] rfl (fun z hz => by cases hz) rfl (by decide) kx_L_105 (by decide +kernel) dL_act_114 kc_L_27 rfl rfl ho (by decide) (Nat.le_of_ble_eq_true rfl) C (fun q => jh_0)
    · rw [hX] at C ⊢
      rw [if_neg (by decide), if_pos rfl]
      exact w_callVx [(⟨0, 456, 457, 105⟩ : ExceptionTableEntry)] (⟨0, 456, 462, 108⟩ : ExceptionTableEntry) [(⟨0, 456, 467, 111⟩ : ExceptionTableEntry)] rfl (fun z hz => by
      simp only [List.mem_cons, List.not_mem_nil, or_false] at hz
      rcases hz with rfl
      · exact ⟨by decide, _, kx_L_105, by decide +kernel⟩) rfl (by decide) kx_L_108 (by decide +kernel) dL_act_114 kc_L_27 rfl rfl ho (by decide) (Nat.le_of_ble_eq_true rfl) C (fun q => jh_1)
    · rw [hX] at C ⊢
      rw [if_neg (by decide), if_neg (by decide)]
      exact w_callVx [(⟨0, 456, 457, 105⟩ : ExceptionTableEntry), (⟨0, 456, 462, 108⟩ : ExceptionTableEntry)] (⟨0, 456, 467, 111⟩ : ExceptionTableEntry) [] rfl (fun z hz => by
      simp only [List.mem_cons, List.not_mem_nil, or_false] at hz
      rcases hz with rfl | rfl
      · exact ⟨by decide, _, kx_L_105, by decide +kernel⟩
      · exact ⟨by decide, _, kx_L_108, by decide +kernel⟩) rfl (by decide) kx_L_111 (by decide +kernel) dL_act_114 kc_L_27 rfl rfl ho (by decide) (Nat.le_of_ble_eq_true rfl) C (fun q => jh_2)
theorem jl_4 {h0 h : k_H} {a : Nat} {x1 x2 x3 x4 x5 x6 x7 : Int32} {h' : k_H} {r : k_R} (J : jwA G l h0 h 114 (lvA a x1 x2 x3 x4 x5 x6 x7) [vI x7, vI x6, vI x5, vI x4, vI x3, vI x2, vR (some a)] h' r) : jwA G l h0 h 103 (lvA a x1 x2 x3 x4 x5 x6 x7) [] h' r := w_aload_n dL_act_103 rfl rfl (w_iload_n dL_act_104 rfl rfl (w_iload_n dL_act_105 rfl rfl (w_iload dL_act_106 rfl (w_iload dL_act_108 rfl (w_iload dL_act_110 rfl (w_iload dL_act_112 rfl J))))))
theorem t_act_4 (hfl : l.flags = flags0) {h : k_H} {a : Nat} {x2 x3 x4 x5 x6 x7 : Int32} {R : s_M × Nat × Int32} {X : Nat → String} {P : k_H → Prop} (ho : k_is h a 14) (hX : R.2.1 = 0 ∨ X R.2.1 = x_IO ∨ X R.2.1 = x_IA ∨ X R.2.1 = x_IS) (C : k_ct (tX11_change G l) [vR (some a), vI x2, vI x3, vI x4, vI x5, vI x6, vI x7] h (fun H' r => P H' ∧ r = lp_r R X)) : k_cti (tL_act G l) [vR (some a), vI 4, vI x2, vI x3, vI x4, vI x5, vI x6, vI x7] h (fun H' v => P H' ∧ v = lp_code R X) := by
  obtain ⟨h1, J, p⟩ := jc_4 (h0 := h) (x1 := 4) ho hX C
  exact ⟨h1, _, k_CwOf (by decide +kernel) (Nat.le_of_ble_eq_true rfl) (jt_0 (by decide) (jt_1 (by decide) (jt_2 (by decide) (jt_3 (by decide) (jb_4 rfl (jl_4 J)))))) hfl, p, rfl⟩
theorem jc_5 {h0 h : k_H} {a : Nat} {x1 x2 x3 x4 x5 x6 x7 : Int32} {R : s_M × Nat × Int32} {X : Nat → String} {P : k_H → Prop} (ho : k_is h a 14) (hX : R.2.1 = 0 ∨ X R.2.1 = x_IO ∨ X R.2.1 = x_IA ∨ X R.2.1 = x_IS) (C : k_ct (tX11_clear G l) [vR (some a), vI x2, vI x3, vI x4] h (fun H' r => P H' ∧ r = lp_r R X)) : ∃ h', jwA G l h0 h 130 (lvA a x1 x2 x3 x4 x5 x6 x7) [vI x4, vI x3, vI x2, vR (some a)] h' (.inl (some (vI (lp_code R X)))) ∧ P h' := by
  obtain ⟨h1, r, C, p, rfl⟩ := C
  refine ⟨h1, ?_, p⟩
  unfold lp_r at C
  unfold lp_code
  by_cases e0 : R.2.1 = 0
  · rw [if_pos e0] at C
    rw [if_pos e0]
    exact w_callV dL_act_130 kc_L_31 rfl rfl ho (by decide) (Nat.le_of_ble_eq_true rfl) C (w_goto (tgt := 456) dL_act_133 (by decide) (w_iret dL_act_456 rfl))
  · rw [if_neg e0] at C
    rw [if_neg e0]
    rcases hX with hX | hX | hX | hX
    · exact absurd hX e0
    · rw [hX] at C ⊢
      rw [if_pos rfl]
      exact w_callVx [] (⟨0, 456, 457, 105⟩ : ExceptionTableEntry) [(⟨0, 456, 462, 108⟩ : ExceptionTableEntry), (⟨0, 456, 467, 111⟩ : ExceptionTableEntry)] rfl (fun z hz => by cases hz) rfl (by decide) kx_L_105 (by decide +kernel) dL_act_130 kc_L_31 rfl rfl ho (by decide) (Nat.le_of_ble_eq_true rfl) C (fun q => jh_0)
    · rw [hX] at C ⊢
      rw [if_neg (by decide), if_pos rfl]
      exact w_callVx [(⟨0, 456, 457, 105⟩ : ExceptionTableEntry)] (⟨0, 456, 462, 108⟩ : ExceptionTableEntry) [(⟨0, 456, 467, 111⟩ : ExceptionTableEntry)] rfl (fun z hz => by
      simp only [List.mem_cons, List.not_mem_nil, or_false] at hz
      rcases hz with rfl
      · exact ⟨by decide, _, kx_L_105, by decide +kernel⟩) rfl (by decide) kx_L_108 (by decide +kernel) dL_act_130 kc_L_31 rfl rfl ho (by decide) (Nat.le_of_ble_eq_true rfl) C (fun q => jh_1)
    · rw [hX] at C ⊢
      rw [if_neg (by decide), if_neg (by decide)]
      exact w_callVx [(⟨0, 456, 457, 105⟩ : ExceptionTableEntry), (⟨0, 456, 462, 108⟩ : ExceptionTableEntry)] (⟨0, 456, 467, 111⟩ : ExceptionTableEntry) [] rfl (fun z hz => by
      simp only [List.mem_cons, List.not_mem_nil, or_false] at hz
      rcases hz with rfl | rfl
      · exact ⟨by decide, _, kx_L_105, by decide +kernel⟩
      · exact ⟨by decide, _, kx_L_108, by decide +kernel⟩) rfl (by decide) kx_L_111 (by decide +kernel) dL_act_130 kc_L_31 rfl rfl ho (by decide) (Nat.le_of_ble_eq_true rfl) C (fun q => jh_2)
theorem jl_5 {h0 h : k_H} {a : Nat} {x1 x2 x3 x4 x5 x6 x7 : Int32} {h' : k_H} {r : k_R} (J : jwA G l h0 h 130 (lvA a x1 x2 x3 x4 x5 x6 x7) [vI x4, vI x3, vI x2, vR (some a)] h' r) : jwA G l h0 h 125 (lvA a x1 x2 x3 x4 x5 x6 x7) [] h' r := w_aload_n dL_act_125 rfl rfl (w_iload_n dL_act_126 rfl rfl (w_iload_n dL_act_127 rfl rfl (w_iload dL_act_128 rfl J)))
theorem t_act_5 (hfl : l.flags = flags0) {h : k_H} {a : Nat} {x2 x3 x4 x5 x6 x7 : Int32} {R : s_M × Nat × Int32} {X : Nat → String} {P : k_H → Prop} (ho : k_is h a 14) (hX : R.2.1 = 0 ∨ X R.2.1 = x_IO ∨ X R.2.1 = x_IA ∨ X R.2.1 = x_IS) (C : k_ct (tX11_clear G l) [vR (some a), vI x2, vI x3, vI x4] h (fun H' r => P H' ∧ r = lp_r R X)) : k_cti (tL_act G l) [vR (some a), vI 5, vI x2, vI x3, vI x4, vI x5, vI x6, vI x7] h (fun H' v => P H' ∧ v = lp_code R X) := by
  obtain ⟨h1, J, p⟩ := jc_5 (h0 := h) (x1 := 5) ho hX C
  exact ⟨h1, _, k_CwOf (by decide +kernel) (Nat.le_of_ble_eq_true rfl) (jt_0 (by decide) (jt_1 (by decide) (jt_2 (by decide) (jt_3 (by decide) (jt_4 (by decide) (jb_5 rfl (jl_5 J))))))) hfl, p, rfl⟩
theorem jc_6 {h0 h : k_H} {a : Nat} {x1 x2 x3 x4 x5 x6 x7 : Int32} {R : s_M × Nat × Int32} {X : Nat → String} {P : k_H → Prop} (ho : k_is h a 14) (hX : R.2.1 = 0 ∨ X R.2.1 = x_IO ∨ X R.2.1 = x_IA ∨ X R.2.1 = x_IS) (C : k_ct (tX11_commit G l) [vR (some a), vI x2] h (fun H' r => P H' ∧ r = lp_r R X)) : ∃ h', jwA G l h0 h 144 (lvA a x1 x2 x3 x4 x5 x6 x7) [vI x2, vR (some a)] h' (.inl (some (vI (lp_code R X)))) ∧ P h' := by
  obtain ⟨h1, r, C, p, rfl⟩ := C
  refine ⟨h1, ?_, p⟩
  unfold lp_r at C
  unfold lp_code
  by_cases e0 : R.2.1 = 0
  · rw [if_pos e0] at C
    rw [if_pos e0]
    exact w_callV dL_act_144 kc_L_35 rfl rfl ho (by decide) (Nat.le_of_ble_eq_true rfl) C (w_goto (tgt := 456) dL_act_147 (by decide) (w_iret dL_act_456 rfl))
  · rw [if_neg e0] at C
    rw [if_neg e0]
    rcases hX with hX | hX | hX | hX
    · exact absurd hX e0
    · rw [hX] at C ⊢
      rw [if_pos rfl]
      exact w_callVx [] (⟨0, 456, 457, 105⟩ : ExceptionTableEntry) [(⟨0, 456, 462, 108⟩ : ExceptionTableEntry), (⟨0, 456, 467, 111⟩ : ExceptionTableEntry)] rfl (fun z hz => by cases hz) rfl (by decide) kx_L_105 (by decide +kernel) dL_act_144 kc_L_35 rfl rfl ho (by decide) (Nat.le_of_ble_eq_true rfl) C (fun q => jh_0)
    · rw [hX] at C ⊢
      rw [if_neg (by decide), if_pos rfl]
      exact w_callVx [(⟨0, 456, 457, 105⟩ : ExceptionTableEntry)] (⟨0, 456, 462, 108⟩ : ExceptionTableEntry) [(⟨0, 456, 467, 111⟩ : ExceptionTableEntry)] rfl (fun z hz => by
      simp only [List.mem_cons, List.not_mem_nil, or_false] at hz
      rcases hz with rfl
      · exact ⟨by decide, _, kx_L_105, by decide +kernel⟩) rfl (by decide) kx_L_108 (by decide +kernel) dL_act_144 kc_L_35 rfl rfl ho (by decide) (Nat.le_of_ble_eq_true rfl) C (fun q => jh_1)
    · rw [hX] at C ⊢
      rw [if_neg (by decide), if_neg (by decide)]
      exact w_callVx [(⟨0, 456, 457, 105⟩ : ExceptionTableEntry), (⟨0, 456, 462, 108⟩ : ExceptionTableEntry)] (⟨0, 456, 467, 111⟩ : ExceptionTableEntry) [] rfl (fun z hz => by
      simp only [List.mem_cons, List.not_mem_nil, or_false] at hz
      rcases hz with rfl | rfl
      · exact ⟨by decide, _, kx_L_105, by decide +kernel⟩
      · exact ⟨by decide, _, kx_L_108, by decide +kernel⟩) rfl (by decide) kx_L_111 (by decide +kernel) dL_act_144 kc_L_35 rfl rfl ho (by decide) (Nat.le_of_ble_eq_true rfl) C (fun q => jh_2)
theorem jl_6 {h0 h : k_H} {a : Nat} {x1 x2 x3 x4 x5 x6 x7 : Int32} {h' : k_H} {r : k_R} (J : jwA G l h0 h 144 (lvA a x1 x2 x3 x4 x5 x6 x7) [vI x2, vR (some a)] h' r) : jwA G l h0 h 142 (lvA a x1 x2 x3 x4 x5 x6 x7) [] h' r := w_aload_n dL_act_142 rfl rfl (w_iload_n dL_act_143 rfl rfl J)
theorem t_act_6 (hfl : l.flags = flags0) {h : k_H} {a : Nat} {x2 x3 x4 x5 x6 x7 : Int32} {R : s_M × Nat × Int32} {X : Nat → String} {P : k_H → Prop} (ho : k_is h a 14) (hX : R.2.1 = 0 ∨ X R.2.1 = x_IO ∨ X R.2.1 = x_IA ∨ X R.2.1 = x_IS) (C : k_ct (tX11_commit G l) [vR (some a), vI x2] h (fun H' r => P H' ∧ r = lp_r R X)) : k_cti (tL_act G l) [vR (some a), vI 6, vI x2, vI x3, vI x4, vI x5, vI x6, vI x7] h (fun H' v => P H' ∧ v = lp_code R X) := by
  obtain ⟨h1, J, p⟩ := jc_6 (h0 := h) (x1 := 6) ho hX C
  exact ⟨h1, _, k_CwOf (by decide +kernel) (Nat.le_of_ble_eq_true rfl) (jt_0 (by decide) (jt_1 (by decide) (jt_2 (by decide) (jt_3 (by decide) (jt_4 (by decide) (jt_5 (by decide) (jb_6 rfl (jl_6 J)))))))) hfl, p, rfl⟩
theorem jc_7 {h0 h : k_H} {a : Nat} {x1 x2 x3 x4 x5 x6 x7 : Int32} {R : s_M × Nat × Int32} {X : Nat → String} {P : k_H → Prop} (ho : k_is h a 14) (hX : R.2.1 = 0 ∨ X R.2.1 = x_IO ∨ X R.2.1 = x_IA ∨ X R.2.1 = x_IS) (C : k_ct (tX11_pass G l) [vR (some a), vI x2] h (fun H' r => P H' ∧ r = lp_r R X)) : ∃ h', jwA G l h0 h 158 (lvA a x1 x2 x3 x4 x5 x6 x7) [vI x2, vR (some a)] h' (.inl (some (vI (lp_code R X)))) ∧ P h' := by
  obtain ⟨h1, r, C, p, rfl⟩ := C
  refine ⟨h1, ?_, p⟩
  unfold lp_r at C
  unfold lp_code
  by_cases e0 : R.2.1 = 0
  · rw [if_pos e0] at C
    rw [if_pos e0]
    exact w_callV dL_act_158 kc_L_39 rfl rfl ho (by decide) (Nat.le_of_ble_eq_true rfl) C (w_goto (tgt := 456) dL_act_161 (by decide) (w_iret dL_act_456 rfl))
  · rw [if_neg e0] at C
    rw [if_neg e0]
    rcases hX with hX | hX | hX | hX
    · exact absurd hX e0
    · rw [hX] at C ⊢
      rw [if_pos rfl]
      exact w_callVx [] (⟨0, 456, 457, 105⟩ : ExceptionTableEntry) [(⟨0, 456, 462, 108⟩ : ExceptionTableEntry), (⟨0, 456, 467, 111⟩ : ExceptionTableEntry)] rfl (fun z hz => by cases hz) rfl (by decide) kx_L_105 (by decide +kernel) dL_act_158 kc_L_39 rfl rfl ho (by decide) (Nat.le_of_ble_eq_true rfl) C (fun q => jh_0)
    · rw [hX] at C ⊢
      rw [if_neg (by decide), if_pos rfl]
      exact w_callVx [(⟨0, 456, 457, 105⟩ : ExceptionTableEntry)] (⟨0, 456, 462, 108⟩ : ExceptionTableEntry) [(⟨0, 456, 467, 111⟩ : ExceptionTableEntry)] rfl (fun z hz => by
      simp only [List.mem_cons, List.not_mem_nil, or_false] at hz
      rcases hz with rfl
      · exact ⟨by decide, _, kx_L_105, by decide +kernel⟩) rfl (by decide) kx_L_108 (by decide +kernel) dL_act_158 kc_L_39 rfl rfl ho (by decide) (Nat.le_of_ble_eq_true rfl) C (fun q => jh_1)
    · rw [hX] at C ⊢
      rw [if_neg (by decide), if_neg (by decide)]
      exact w_callVx [(⟨0, 456, 457, 105⟩ : ExceptionTableEntry), (⟨0, 456, 462, 108⟩ : ExceptionTableEntry)] (⟨0, 456, 467, 111⟩ : ExceptionTableEntry) [] rfl (fun z hz => by
      simp only [List.mem_cons, List.not_mem_nil, or_false] at hz
      rcases hz with rfl | rfl
      · exact ⟨by decide, _, kx_L_105, by decide +kernel⟩
      · exact ⟨by decide, _, kx_L_108, by decide +kernel⟩) rfl (by decide) kx_L_111 (by decide +kernel) dL_act_158 kc_L_39 rfl rfl ho (by decide) (Nat.le_of_ble_eq_true rfl) C (fun q => jh_2)
theorem jl_7 {h0 h : k_H} {a : Nat} {x1 x2 x3 x4 x5 x6 x7 : Int32} {h' : k_H} {r : k_R} (J : jwA G l h0 h 158 (lvA a x1 x2 x3 x4 x5 x6 x7) [vI x2, vR (some a)] h' r) : jwA G l h0 h 156 (lvA a x1 x2 x3 x4 x5 x6 x7) [] h' r := w_aload_n dL_act_156 rfl rfl (w_iload_n dL_act_157 rfl rfl J)
theorem t_act_7 (hfl : l.flags = flags0) {h : k_H} {a : Nat} {x2 x3 x4 x5 x6 x7 : Int32} {R : s_M × Nat × Int32} {X : Nat → String} {P : k_H → Prop} (ho : k_is h a 14) (hX : R.2.1 = 0 ∨ X R.2.1 = x_IO ∨ X R.2.1 = x_IA ∨ X R.2.1 = x_IS) (C : k_ct (tX11_pass G l) [vR (some a), vI x2] h (fun H' r => P H' ∧ r = lp_r R X)) : k_cti (tL_act G l) [vR (some a), vI 7, vI x2, vI x3, vI x4, vI x5, vI x6, vI x7] h (fun H' v => P H' ∧ v = lp_code R X) := by
  obtain ⟨h1, J, p⟩ := jc_7 (h0 := h) (x1 := 7) ho hX C
  exact ⟨h1, _, k_CwOf (by decide +kernel) (Nat.le_of_ble_eq_true rfl) (jt_0 (by decide) (jt_1 (by decide) (jt_2 (by decide) (jt_3 (by decide) (jt_4 (by decide) (jt_5 (by decide) (jt_6 (by decide) (jb_7 rfl (jl_7 J))))))))) hfl, p, rfl⟩
theorem jc_8 {h0 h : k_H} {a : Nat} {x1 x2 x3 x4 x5 x6 x7 : Int32} {R : s_M × Nat × Int32} {X : Nat → String} {P : k_H → Prop} (ho : k_is h a 14) (hX : R.2.1 = 0 ∨ X R.2.1 = x_IO ∨ X R.2.1 = x_IA ∨ X R.2.1 = x_IS) (C : k_ct (tX11_value G l) [vR (some a), vI x2, vI x3, vI x4, vI x5] h (fun H' r => P H' ∧ r = lp_r R X)) : ∃ h', jwA G l h0 h 177 (lvA a x1 x2 x3 x4 x5 x6 x7) [vI x5, vI x4, vI x3, vI x2, vR (some a)] h' (.inl (some (vI (lp_code R X)))) ∧ P h' := by
  obtain ⟨h1, r, C, p, rfl⟩ := C
  refine ⟨h1, ?_, p⟩
  unfold lp_r at C
  unfold lp_code
  by_cases e0 : R.2.1 = 0
  · rw [if_pos e0] at C
    rw [if_pos e0]
    exact w_callV dL_act_177 kc_L_42 rfl rfl ho (by decide) (Nat.le_of_ble_eq_true rfl) C (w_goto (tgt := 456) dL_act_180 (by decide) (w_iret dL_act_456 rfl))
  · rw [if_neg e0] at C
    rw [if_neg e0]
    rcases hX with hX | hX | hX | hX
    · exact absurd hX e0
    · rw [hX] at C ⊢
      rw [if_pos rfl]
      exact w_callVx [] (⟨0, 456, 457, 105⟩ : ExceptionTableEntry) [(⟨0, 456, 462, 108⟩ : ExceptionTableEntry), (⟨0, 456, 467, 111⟩ : ExceptionTableEntry)] rfl (fun z hz => by cases hz) rfl (by decide) kx_L_105 (by decide +kernel) dL_act_177 kc_L_42 rfl rfl ho (by decide) (Nat.le_of_ble_eq_true rfl) C (fun q => jh_0)
    · rw [hX] at C ⊢
      rw [if_neg (by decide), if_pos rfl]
      exact w_callVx [(⟨0, 456, 457, 105⟩ : ExceptionTableEntry)] (⟨0, 456, 462, 108⟩ : ExceptionTableEntry) [(⟨0, 456, 467, 111⟩ : ExceptionTableEntry)] rfl (fun z hz => by
      simp only [List.mem_cons, List.not_mem_nil, or_false] at hz
      rcases hz with rfl
      · exact ⟨by decide, _, kx_L_105, by decide +kernel⟩) rfl (by decide) kx_L_108 (by decide +kernel) dL_act_177 kc_L_42 rfl rfl ho (by decide) (Nat.le_of_ble_eq_true rfl) C (fun q => jh_1)
    · rw [hX] at C ⊢
      rw [if_neg (by decide), if_neg (by decide)]
      exact w_callVx [(⟨0, 456, 457, 105⟩ : ExceptionTableEntry), (⟨0, 456, 462, 108⟩ : ExceptionTableEntry)] (⟨0, 456, 467, 111⟩ : ExceptionTableEntry) [] rfl (fun z hz => by
      simp only [List.mem_cons, List.not_mem_nil, or_false] at hz
      rcases hz with rfl | rfl
      · exact ⟨by decide, _, kx_L_105, by decide +kernel⟩
      · exact ⟨by decide, _, kx_L_108, by decide +kernel⟩) rfl (by decide) kx_L_111 (by decide +kernel) dL_act_177 kc_L_42 rfl rfl ho (by decide) (Nat.le_of_ble_eq_true rfl) C (fun q => jh_2)
theorem jl_8 {h0 h : k_H} {a : Nat} {x1 x2 x3 x4 x5 x6 x7 : Int32} {h' : k_H} {r : k_R} (J : jwA G l h0 h 177 (lvA a x1 x2 x3 x4 x5 x6 x7) [vI x5, vI x4, vI x3, vI x2, vR (some a)] h' r) : jwA G l h0 h 170 (lvA a x1 x2 x3 x4 x5 x6 x7) [] h' r := w_aload_n dL_act_170 rfl rfl (w_iload_n dL_act_171 rfl rfl (w_iload_n dL_act_172 rfl rfl (w_iload dL_act_173 rfl (w_iload dL_act_175 rfl J))))
theorem t_act_8 (hfl : l.flags = flags0) {h : k_H} {a : Nat} {x2 x3 x4 x5 x6 x7 : Int32} {R : s_M × Nat × Int32} {X : Nat → String} {P : k_H → Prop} (ho : k_is h a 14) (hX : R.2.1 = 0 ∨ X R.2.1 = x_IO ∨ X R.2.1 = x_IA ∨ X R.2.1 = x_IS) (C : k_ct (tX11_value G l) [vR (some a), vI x2, vI x3, vI x4, vI x5] h (fun H' r => P H' ∧ r = lp_r R X)) : k_cti (tL_act G l) [vR (some a), vI 8, vI x2, vI x3, vI x4, vI x5, vI x6, vI x7] h (fun H' v => P H' ∧ v = lp_code R X) := by
  obtain ⟨h1, J, p⟩ := jc_8 (h0 := h) (x1 := 8) ho hX C
  exact ⟨h1, _, k_CwOf (by decide +kernel) (Nat.le_of_ble_eq_true rfl) (jt_0 (by decide) (jt_1 (by decide) (jt_2 (by decide) (jt_3 (by decide) (jt_4 (by decide) (jt_5 (by decide) (jt_6 (by decide) (jt_7 (by decide) (jb_8 rfl (jl_8 J)))))))))) hfl, p, rfl⟩
theorem jc_9 {h0 h : k_H} {a : Nat} {x1 x2 x3 x4 x5 x6 x7 : Int32} {R : s_M × Nat × Int32} {X : Nat → String} {P : k_H → Prop} (ho : k_is h a 14) (hX : R.2.1 = 0 ∨ X R.2.1 = x_IO ∨ X R.2.1 = x_IA ∨ X R.2.1 = x_IS) (C : k_ct (tX11_packed G l) [vR (some a), vI x2, vI x3, vI x4, vI x5] h (fun H' r => P H' ∧ r = lp_r R X)) : ∃ h', jwA G l h0 h 196 (lvA a x1 x2 x3 x4 x5 x6 x7) [vI x5, vI x4, vI x3, vI x2, vR (some a)] h' (.inl (some (vI (lp_code R X)))) ∧ P h' := by
  obtain ⟨h1, r, C, p, rfl⟩ := C
  refine ⟨h1, ?_, p⟩
  unfold lp_r at C
  unfold lp_code
  by_cases e0 : R.2.1 = 0
  · rw [if_pos e0] at C
    rw [if_pos e0]
    exact w_callV dL_act_196 kc_L_46 rfl rfl ho (by decide) (Nat.le_of_ble_eq_true rfl) C (w_goto (tgt := 456) dL_act_199 (by decide) (w_iret dL_act_456 rfl))
  · rw [if_neg e0] at C
    rw [if_neg e0]
    rcases hX with hX | hX | hX | hX
    · exact absurd hX e0
    · rw [hX] at C ⊢
      rw [if_pos rfl]
      exact w_callVx [] (⟨0, 456, 457, 105⟩ : ExceptionTableEntry) [(⟨0, 456, 462, 108⟩ : ExceptionTableEntry), (⟨0, 456, 467, 111⟩ : ExceptionTableEntry)] rfl (fun z hz => by cases hz) rfl (by decide) kx_L_105 (by decide +kernel) dL_act_196 kc_L_46 rfl rfl ho (by decide) (Nat.le_of_ble_eq_true rfl) C (fun q => jh_0)
    · rw [hX] at C ⊢
      rw [if_neg (by decide), if_pos rfl]
      exact w_callVx [(⟨0, 456, 457, 105⟩ : ExceptionTableEntry)] (⟨0, 456, 462, 108⟩ : ExceptionTableEntry) [(⟨0, 456, 467, 111⟩ : ExceptionTableEntry)] rfl (fun z hz => by
      simp only [List.mem_cons, List.not_mem_nil, or_false] at hz
      rcases hz with rfl
      · exact ⟨by decide, _, kx_L_105, by decide +kernel⟩) rfl (by decide) kx_L_108 (by decide +kernel) dL_act_196 kc_L_46 rfl rfl ho (by decide) (Nat.le_of_ble_eq_true rfl) C (fun q => jh_1)
    · rw [hX] at C ⊢
      rw [if_neg (by decide), if_neg (by decide)]
      exact w_callVx [(⟨0, 456, 457, 105⟩ : ExceptionTableEntry), (⟨0, 456, 462, 108⟩ : ExceptionTableEntry)] (⟨0, 456, 467, 111⟩ : ExceptionTableEntry) [] rfl (fun z hz => by
      simp only [List.mem_cons, List.not_mem_nil, or_false] at hz
      rcases hz with rfl | rfl
      · exact ⟨by decide, _, kx_L_105, by decide +kernel⟩
      · exact ⟨by decide, _, kx_L_108, by decide +kernel⟩) rfl (by decide) kx_L_111 (by decide +kernel) dL_act_196 kc_L_46 rfl rfl ho (by decide) (Nat.le_of_ble_eq_true rfl) C (fun q => jh_2)
theorem jl_9 {h0 h : k_H} {a : Nat} {x1 x2 x3 x4 x5 x6 x7 : Int32} {h' : k_H} {r : k_R} (J : jwA G l h0 h 196 (lvA a x1 x2 x3 x4 x5 x6 x7) [vI x5, vI x4, vI x3, vI x2, vR (some a)] h' r) : jwA G l h0 h 189 (lvA a x1 x2 x3 x4 x5 x6 x7) [] h' r := w_aload_n dL_act_189 rfl rfl (w_iload_n dL_act_190 rfl rfl (w_iload_n dL_act_191 rfl rfl (w_iload dL_act_192 rfl (w_iload dL_act_194 rfl J))))
theorem t_act_9 (hfl : l.flags = flags0) {h : k_H} {a : Nat} {x2 x3 x4 x5 x6 x7 : Int32} {R : s_M × Nat × Int32} {X : Nat → String} {P : k_H → Prop} (ho : k_is h a 14) (hX : R.2.1 = 0 ∨ X R.2.1 = x_IO ∨ X R.2.1 = x_IA ∨ X R.2.1 = x_IS) (C : k_ct (tX11_packed G l) [vR (some a), vI x2, vI x3, vI x4, vI x5] h (fun H' r => P H' ∧ r = lp_r R X)) : k_cti (tL_act G l) [vR (some a), vI 9, vI x2, vI x3, vI x4, vI x5, vI x6, vI x7] h (fun H' v => P H' ∧ v = lp_code R X) := by
  obtain ⟨h1, J, p⟩ := jc_9 (h0 := h) (x1 := 9) ho hX C
  exact ⟨h1, _, k_CwOf (by decide +kernel) (Nat.le_of_ble_eq_true rfl) (jt_0 (by decide) (jt_1 (by decide) (jt_2 (by decide) (jt_3 (by decide) (jt_4 (by decide) (jt_5 (by decide) (jt_6 (by decide) (jt_7 (by decide) (jt_8 (by decide) (jb_9 rfl (jl_9 J))))))))))) hfl, p, rfl⟩
theorem jc_10 {h0 h : k_H} {a : Nat} {x1 x2 x3 x4 x5 x6 x7 : Int32} {R : s_M × Nat × Int32} {X : Nat → String} {P : k_H → Prop} (ho : k_is h a 14) (hX : R.2.1 = 0 ∨ X R.2.1 = x_IO ∨ X R.2.1 = x_IA ∨ X R.2.1 = x_IS) (C : k_ct (tX11_save G l) [vR (some a), vI x2, vI x3, vI x4] h (fun H' r => P H' ∧ r = lp_r R X)) : ∃ h', jwA G l h0 h 213 (lvA a x1 x2 x3 x4 x5 x6 x7) [vI x4, vI x3, vI x2, vR (some a)] h' (.inl (some (vI (lp_code R X)))) ∧ P h' := by
  obtain ⟨h1, r, C, p, rfl⟩ := C
  refine ⟨h1, ?_, p⟩
  unfold lp_r at C
  unfold lp_code
  by_cases e0 : R.2.1 = 0
  · rw [if_pos e0] at C
    rw [if_pos e0]
    exact w_callV dL_act_213 kc_L_49 rfl rfl ho (by decide) (Nat.le_of_ble_eq_true rfl) C (w_goto (tgt := 456) dL_act_216 (by decide) (w_iret dL_act_456 rfl))
  · rw [if_neg e0] at C
    rw [if_neg e0]
    rcases hX with hX | hX | hX | hX
    · exact absurd hX e0
    · rw [hX] at C ⊢
      rw [if_pos rfl]
      exact w_callVx [] (⟨0, 456, 457, 105⟩ : ExceptionTableEntry) [(⟨0, 456, 462, 108⟩ : ExceptionTableEntry), (⟨0, 456, 467, 111⟩ : ExceptionTableEntry)] rfl (fun z hz => by cases hz) rfl (by decide) kx_L_105 (by decide +kernel) dL_act_213 kc_L_49 rfl rfl ho (by decide) (Nat.le_of_ble_eq_true rfl) C (fun q => jh_0)
    · rw [hX] at C ⊢
      rw [if_neg (by decide), if_pos rfl]
      exact w_callVx [(⟨0, 456, 457, 105⟩ : ExceptionTableEntry)] (⟨0, 456, 462, 108⟩ : ExceptionTableEntry) [(⟨0, 456, 467, 111⟩ : ExceptionTableEntry)] rfl (fun z hz => by
      simp only [List.mem_cons, List.not_mem_nil, or_false] at hz
      rcases hz with rfl
      · exact ⟨by decide, _, kx_L_105, by decide +kernel⟩) rfl (by decide) kx_L_108 (by decide +kernel) dL_act_213 kc_L_49 rfl rfl ho (by decide) (Nat.le_of_ble_eq_true rfl) C (fun q => jh_1)
    · rw [hX] at C ⊢
      rw [if_neg (by decide), if_neg (by decide)]
      exact w_callVx [(⟨0, 456, 457, 105⟩ : ExceptionTableEntry), (⟨0, 456, 462, 108⟩ : ExceptionTableEntry)] (⟨0, 456, 467, 111⟩ : ExceptionTableEntry) [] rfl (fun z hz => by
      simp only [List.mem_cons, List.not_mem_nil, or_false] at hz
      rcases hz with rfl | rfl
      · exact ⟨by decide, _, kx_L_105, by decide +kernel⟩
      · exact ⟨by decide, _, kx_L_108, by decide +kernel⟩) rfl (by decide) kx_L_111 (by decide +kernel) dL_act_213 kc_L_49 rfl rfl ho (by decide) (Nat.le_of_ble_eq_true rfl) C (fun q => jh_2)
theorem jl_10 {h0 h : k_H} {a : Nat} {x1 x2 x3 x4 x5 x6 x7 : Int32} {h' : k_H} {r : k_R} (J : jwA G l h0 h 213 (lvA a x1 x2 x3 x4 x5 x6 x7) [vI x4, vI x3, vI x2, vR (some a)] h' r) : jwA G l h0 h 208 (lvA a x1 x2 x3 x4 x5 x6 x7) [] h' r := w_aload_n dL_act_208 rfl rfl (w_iload_n dL_act_209 rfl rfl (w_iload_n dL_act_210 rfl rfl (w_iload dL_act_211 rfl J)))
theorem t_act_10 (hfl : l.flags = flags0) {h : k_H} {a : Nat} {x2 x3 x4 x5 x6 x7 : Int32} {R : s_M × Nat × Int32} {X : Nat → String} {P : k_H → Prop} (ho : k_is h a 14) (hX : R.2.1 = 0 ∨ X R.2.1 = x_IO ∨ X R.2.1 = x_IA ∨ X R.2.1 = x_IS) (C : k_ct (tX11_save G l) [vR (some a), vI x2, vI x3, vI x4] h (fun H' r => P H' ∧ r = lp_r R X)) : k_cti (tL_act G l) [vR (some a), vI 10, vI x2, vI x3, vI x4, vI x5, vI x6, vI x7] h (fun H' v => P H' ∧ v = lp_code R X) := by
  obtain ⟨h1, J, p⟩ := jc_10 (h0 := h) (x1 := 10) ho hX C
  exact ⟨h1, _, k_CwOf (by decide +kernel) (Nat.le_of_ble_eq_true rfl) (jt_0 (by decide) (jt_1 (by decide) (jt_2 (by decide) (jt_3 (by decide) (jt_4 (by decide) (jt_5 (by decide) (jt_6 (by decide) (jt_7 (by decide) (jt_8 (by decide) (jt_9 (by decide) (jb_10 rfl (jl_10 J)))))))))))) hfl, p, rfl⟩
theorem jc_11 {h0 h : k_H} {a : Nat} {x1 x2 x3 x4 x5 x6 x7 : Int32} {R : s_M × Nat × Int32} {X : Nat → String} {P : k_H → Prop} (ho : k_is h a 14) (hX : R.2.1 = 0 ∨ X R.2.1 = x_IO ∨ X R.2.1 = x_IA ∨ X R.2.1 = x_IS) (C : k_ct (tX11_erase G l) [vR (some a), vI x2, vI x3] h (fun H' r => P H' ∧ r = lp_r R X)) : ∃ h', jwA G l h0 h 228 (lvA a x1 x2 x3 x4 x5 x6 x7) [vI x3, vI x2, vR (some a)] h' (.inl (some (vI (lp_code R X)))) ∧ P h' := by
  obtain ⟨h1, r, C, p, rfl⟩ := C
  refine ⟨h1, ?_, p⟩
  unfold lp_r at C
  unfold lp_code
  by_cases e0 : R.2.1 = 0
  · rw [if_pos e0] at C
    rw [if_pos e0]
    exact w_callV dL_act_228 kc_L_52 rfl rfl ho (by decide) (Nat.le_of_ble_eq_true rfl) C (w_goto (tgt := 456) dL_act_231 (by decide) (w_iret dL_act_456 rfl))
  · rw [if_neg e0] at C
    rw [if_neg e0]
    rcases hX with hX | hX | hX | hX
    · exact absurd hX e0
    · rw [hX] at C ⊢
      rw [if_pos rfl]
      exact w_callVx [] (⟨0, 456, 457, 105⟩ : ExceptionTableEntry) [(⟨0, 456, 462, 108⟩ : ExceptionTableEntry), (⟨0, 456, 467, 111⟩ : ExceptionTableEntry)] rfl (fun z hz => by cases hz) rfl (by decide) kx_L_105 (by decide +kernel) dL_act_228 kc_L_52 rfl rfl ho (by decide) (Nat.le_of_ble_eq_true rfl) C (fun q => jh_0)
    · rw [hX] at C ⊢
      rw [if_neg (by decide), if_pos rfl]
      exact w_callVx [(⟨0, 456, 457, 105⟩ : ExceptionTableEntry)] (⟨0, 456, 462, 108⟩ : ExceptionTableEntry) [(⟨0, 456, 467, 111⟩ : ExceptionTableEntry)] rfl (fun z hz => by
      simp only [List.mem_cons, List.not_mem_nil, or_false] at hz
      rcases hz with rfl
      · exact ⟨by decide, _, kx_L_105, by decide +kernel⟩) rfl (by decide) kx_L_108 (by decide +kernel) dL_act_228 kc_L_52 rfl rfl ho (by decide) (Nat.le_of_ble_eq_true rfl) C (fun q => jh_1)
    · rw [hX] at C ⊢
      rw [if_neg (by decide), if_neg (by decide)]
      exact w_callVx [(⟨0, 456, 457, 105⟩ : ExceptionTableEntry), (⟨0, 456, 462, 108⟩ : ExceptionTableEntry)] (⟨0, 456, 467, 111⟩ : ExceptionTableEntry) [] rfl (fun z hz => by
      simp only [List.mem_cons, List.not_mem_nil, or_false] at hz
      rcases hz with rfl | rfl
      · exact ⟨by decide, _, kx_L_105, by decide +kernel⟩
      · exact ⟨by decide, _, kx_L_108, by decide +kernel⟩) rfl (by decide) kx_L_111 (by decide +kernel) dL_act_228 kc_L_52 rfl rfl ho (by decide) (Nat.le_of_ble_eq_true rfl) C (fun q => jh_2)
theorem jl_11 {h0 h : k_H} {a : Nat} {x1 x2 x3 x4 x5 x6 x7 : Int32} {h' : k_H} {r : k_R} (J : jwA G l h0 h 228 (lvA a x1 x2 x3 x4 x5 x6 x7) [vI x3, vI x2, vR (some a)] h' r) : jwA G l h0 h 225 (lvA a x1 x2 x3 x4 x5 x6 x7) [] h' r := w_aload_n dL_act_225 rfl rfl (w_iload_n dL_act_226 rfl rfl (w_iload_n dL_act_227 rfl rfl J))
theorem t_act_11 (hfl : l.flags = flags0) {h : k_H} {a : Nat} {x2 x3 x4 x5 x6 x7 : Int32} {R : s_M × Nat × Int32} {X : Nat → String} {P : k_H → Prop} (ho : k_is h a 14) (hX : R.2.1 = 0 ∨ X R.2.1 = x_IO ∨ X R.2.1 = x_IA ∨ X R.2.1 = x_IS) (C : k_ct (tX11_erase G l) [vR (some a), vI x2, vI x3] h (fun H' r => P H' ∧ r = lp_r R X)) : k_cti (tL_act G l) [vR (some a), vI 11, vI x2, vI x3, vI x4, vI x5, vI x6, vI x7] h (fun H' v => P H' ∧ v = lp_code R X) := by
  obtain ⟨h1, J, p⟩ := jc_11 (h0 := h) (x1 := 11) ho hX C
  exact ⟨h1, _, k_CwOf (by decide +kernel) (Nat.le_of_ble_eq_true rfl) (jt_0 (by decide) (jt_1 (by decide) (jt_2 (by decide) (jt_3 (by decide) (jt_4 (by decide) (jt_5 (by decide) (jt_6 (by decide) (jt_7 (by decide) (jt_8 (by decide) (jt_9 (by decide) (jt_10 (by decide) (jb_11 rfl (jl_11 J))))))))))))) hfl, p, rfl⟩
theorem jc_12 {h0 h : k_H} {a : Nat} {x1 x2 x3 x4 x5 x6 x7 : Int32} {R : s_M × Nat × Int32} {X : Nat → String} {P : k_H → Prop} (ho : k_is h a 14) (hX : R.2.1 = 0 ∨ X R.2.1 = x_IO ∨ X R.2.1 = x_IA ∨ X R.2.1 = x_IS) (C : k_ct (tX11_build G l) [vR (some a), vI x2, vI x3] h (fun H' r => P H' ∧ r = lp_r R X)) : ∃ h', jwA G l h0 h 243 (lvA a x1 x2 x3 x4 x5 x6 x7) [vI x3, vI x2, vR (some a)] h' (.inl (some (vI (lp_code R X)))) ∧ P h' := by
  obtain ⟨h1, r, C, p, rfl⟩ := C
  refine ⟨h1, ?_, p⟩
  unfold lp_r at C
  unfold lp_code
  by_cases e0 : R.2.1 = 0
  · rw [if_pos e0] at C
    rw [if_pos e0]
    exact w_callV dL_act_243 kc_L_56 rfl rfl ho (by decide) (Nat.le_of_ble_eq_true rfl) C (w_goto (tgt := 456) dL_act_246 (by decide) (w_iret dL_act_456 rfl))
  · rw [if_neg e0] at C
    rw [if_neg e0]
    rcases hX with hX | hX | hX | hX
    · exact absurd hX e0
    · rw [hX] at C ⊢
      rw [if_pos rfl]
      exact w_callVx [] (⟨0, 456, 457, 105⟩ : ExceptionTableEntry) [(⟨0, 456, 462, 108⟩ : ExceptionTableEntry), (⟨0, 456, 467, 111⟩ : ExceptionTableEntry)] rfl (fun z hz => by cases hz) rfl (by decide) kx_L_105 (by decide +kernel) dL_act_243 kc_L_56 rfl rfl ho (by decide) (Nat.le_of_ble_eq_true rfl) C (fun q => jh_0)
    · rw [hX] at C ⊢
      rw [if_neg (by decide), if_pos rfl]
      exact w_callVx [(⟨0, 456, 457, 105⟩ : ExceptionTableEntry)] (⟨0, 456, 462, 108⟩ : ExceptionTableEntry) [(⟨0, 456, 467, 111⟩ : ExceptionTableEntry)] rfl (fun z hz => by
      simp only [List.mem_cons, List.not_mem_nil, or_false] at hz
      rcases hz with rfl
      · exact ⟨by decide, _, kx_L_105, by decide +kernel⟩) rfl (by decide) kx_L_108 (by decide +kernel) dL_act_243 kc_L_56 rfl rfl ho (by decide) (Nat.le_of_ble_eq_true rfl) C (fun q => jh_1)
    · rw [hX] at C ⊢
      rw [if_neg (by decide), if_neg (by decide)]
      exact w_callVx [(⟨0, 456, 457, 105⟩ : ExceptionTableEntry), (⟨0, 456, 462, 108⟩ : ExceptionTableEntry)] (⟨0, 456, 467, 111⟩ : ExceptionTableEntry) [] rfl (fun z hz => by
      simp only [List.mem_cons, List.not_mem_nil, or_false] at hz
      rcases hz with rfl | rfl
      · exact ⟨by decide, _, kx_L_105, by decide +kernel⟩
      · exact ⟨by decide, _, kx_L_108, by decide +kernel⟩) rfl (by decide) kx_L_111 (by decide +kernel) dL_act_243 kc_L_56 rfl rfl ho (by decide) (Nat.le_of_ble_eq_true rfl) C (fun q => jh_2)
theorem jl_12 {h0 h : k_H} {a : Nat} {x1 x2 x3 x4 x5 x6 x7 : Int32} {h' : k_H} {r : k_R} (J : jwA G l h0 h 243 (lvA a x1 x2 x3 x4 x5 x6 x7) [vI x3, vI x2, vR (some a)] h' r) : jwA G l h0 h 240 (lvA a x1 x2 x3 x4 x5 x6 x7) [] h' r := w_aload_n dL_act_240 rfl rfl (w_iload_n dL_act_241 rfl rfl (w_iload_n dL_act_242 rfl rfl J))
theorem t_act_12 (hfl : l.flags = flags0) {h : k_H} {a : Nat} {x2 x3 x4 x5 x6 x7 : Int32} {R : s_M × Nat × Int32} {X : Nat → String} {P : k_H → Prop} (ho : k_is h a 14) (hX : R.2.1 = 0 ∨ X R.2.1 = x_IO ∨ X R.2.1 = x_IA ∨ X R.2.1 = x_IS) (C : k_ct (tX11_build G l) [vR (some a), vI x2, vI x3] h (fun H' r => P H' ∧ r = lp_r R X)) : k_cti (tL_act G l) [vR (some a), vI 12, vI x2, vI x3, vI x4, vI x5, vI x6, vI x7] h (fun H' v => P H' ∧ v = lp_code R X) := by
  obtain ⟨h1, J, p⟩ := jc_12 (h0 := h) (x1 := 12) ho hX C
  exact ⟨h1, _, k_CwOf (by decide +kernel) (Nat.le_of_ble_eq_true rfl) (jt_0 (by decide) (jt_1 (by decide) (jt_2 (by decide) (jt_3 (by decide) (jt_4 (by decide) (jt_5 (by decide) (jt_6 (by decide) (jt_7 (by decide) (jt_8 (by decide) (jt_9 (by decide) (jt_10 (by decide) (jt_11 (by decide) (jb_12 rfl (jl_12 J)))))))))))))) hfl, p, rfl⟩
theorem jc_13 {h0 h : k_H} {a : Nat} {x1 x2 x3 x4 x5 x6 x7 : Int32} {R : s_M × Nat × Int32} {X : Nat → String} {P : k_H → Prop} (ho : k_is h a 14) (hX : R.2.1 = 0 ∨ X R.2.1 = x_IO ∨ X R.2.1 = x_IA ∨ X R.2.1 = x_IS) (C : k_ct (tX11_off G l) [vR (some a), vI x2] h (fun H' r => P H' ∧ r = lp_r R X)) : ∃ h', jwA G l h0 h 257 (lvA a x1 x2 x3 x4 x5 x6 x7) [vI x2, vR (some a)] h' (.inl (some (vI (lp_code R X)))) ∧ P h' := by
  obtain ⟨h1, r, C, p, rfl⟩ := C
  refine ⟨h1, ?_, p⟩
  unfold lp_r at C
  unfold lp_code
  by_cases e0 : R.2.1 = 0
  · rw [if_pos e0] at C
    rw [if_pos e0]
    exact w_callV dL_act_257 kc_L_59 rfl rfl ho (by decide) (Nat.le_of_ble_eq_true rfl) C (w_goto (tgt := 456) dL_act_260 (by decide) (w_iret dL_act_456 rfl))
  · rw [if_neg e0] at C
    rw [if_neg e0]
    rcases hX with hX | hX | hX | hX
    · exact absurd hX e0
    · rw [hX] at C ⊢
      rw [if_pos rfl]
      exact w_callVx [] (⟨0, 456, 457, 105⟩ : ExceptionTableEntry) [(⟨0, 456, 462, 108⟩ : ExceptionTableEntry), (⟨0, 456, 467, 111⟩ : ExceptionTableEntry)] rfl (fun z hz => by cases hz) rfl (by decide) kx_L_105 (by decide +kernel) dL_act_257 kc_L_59 rfl rfl ho (by decide) (Nat.le_of_ble_eq_true rfl) C (fun q => jh_0)
    · rw [hX] at C ⊢
      rw [if_neg (by decide), if_pos rfl]
      exact w_callVx [(⟨0, 456, 457, 105⟩ : ExceptionTableEntry)] (⟨0, 456, 462, 108⟩ : ExceptionTableEntry) [(⟨0, 456, 467, 111⟩ : ExceptionTableEntry)] rfl (fun z hz => by
      simp only [List.mem_cons, List.not_mem_nil, or_false] at hz
      rcases hz with rfl
      · exact ⟨by decide, _, kx_L_105, by decide +kernel⟩) rfl (by decide) kx_L_108 (by decide +kernel) dL_act_257 kc_L_59 rfl rfl ho (by decide) (Nat.le_of_ble_eq_true rfl) C (fun q => jh_1)
    · rw [hX] at C ⊢
      rw [if_neg (by decide), if_neg (by decide)]
      exact w_callVx [(⟨0, 456, 457, 105⟩ : ExceptionTableEntry), (⟨0, 456, 462, 108⟩ : ExceptionTableEntry)] (⟨0, 456, 467, 111⟩ : ExceptionTableEntry) [] rfl (fun z hz => by
      simp only [List.mem_cons, List.not_mem_nil, or_false] at hz
      rcases hz with rfl | rfl
      · exact ⟨by decide, _, kx_L_105, by decide +kernel⟩
      · exact ⟨by decide, _, kx_L_108, by decide +kernel⟩) rfl (by decide) kx_L_111 (by decide +kernel) dL_act_257 kc_L_59 rfl rfl ho (by decide) (Nat.le_of_ble_eq_true rfl) C (fun q => jh_2)
theorem jl_13 {h0 h : k_H} {a : Nat} {x1 x2 x3 x4 x5 x6 x7 : Int32} {h' : k_H} {r : k_R} (J : jwA G l h0 h 257 (lvA a x1 x2 x3 x4 x5 x6 x7) [vI x2, vR (some a)] h' r) : jwA G l h0 h 255 (lvA a x1 x2 x3 x4 x5 x6 x7) [] h' r := w_aload_n dL_act_255 rfl rfl (w_iload_n dL_act_256 rfl rfl J)
theorem t_act_13 (hfl : l.flags = flags0) {h : k_H} {a : Nat} {x2 x3 x4 x5 x6 x7 : Int32} {R : s_M × Nat × Int32} {X : Nat → String} {P : k_H → Prop} (ho : k_is h a 14) (hX : R.2.1 = 0 ∨ X R.2.1 = x_IO ∨ X R.2.1 = x_IA ∨ X R.2.1 = x_IS) (C : k_ct (tX11_off G l) [vR (some a), vI x2] h (fun H' r => P H' ∧ r = lp_r R X)) : k_cti (tL_act G l) [vR (some a), vI 13, vI x2, vI x3, vI x4, vI x5, vI x6, vI x7] h (fun H' v => P H' ∧ v = lp_code R X) := by
  obtain ⟨h1, J, p⟩ := jc_13 (h0 := h) (x1 := 13) ho hX C
  exact ⟨h1, _, k_CwOf (by decide +kernel) (Nat.le_of_ble_eq_true rfl) (jt_0 (by decide) (jt_1 (by decide) (jt_2 (by decide) (jt_3 (by decide) (jt_4 (by decide) (jt_5 (by decide) (jt_6 (by decide) (jt_7 (by decide) (jt_8 (by decide) (jt_9 (by decide) (jt_10 (by decide) (jt_11 (by decide) (jt_12 (by decide) (jb_13 rfl (jl_13 J))))))))))))))) hfl, p, rfl⟩
theorem jc_14 {h0 h : k_H} {a : Nat} {x1 x2 x3 x4 x5 x6 x7 : Int32} {R : s_M × Nat × Int32} {X : Nat → String} {P : k_H → Prop} (ho : k_is h a 14) (hX : R.2.1 = 0 ∨ X R.2.1 = x_IO ∨ X R.2.1 = x_IA ∨ X R.2.1 = x_IS) (C : k_ct (tX11_rank G l) [vR (some a), vI x2] h (fun H' r => P H' ∧ r = lp_r R X)) : ∃ h', jwA G l h0 h 271 (lvA a x1 x2 x3 x4 x5 x6 x7) [vI x2, vR (some a)] h' (.inl (some (vI (lp_code R X)))) ∧ P h' := by
  obtain ⟨h1, r, C, p, rfl⟩ := C
  refine ⟨h1, ?_, p⟩
  unfold lp_r at C
  unfold lp_code
  by_cases e0 : R.2.1 = 0
  · rw [if_pos e0] at C
    rw [if_pos e0]
    exact w_callV dL_act_271 kc_L_62 rfl rfl ho (by decide) (Nat.le_of_ble_eq_true rfl) C (w_goto (tgt := 456) dL_act_274 (by decide) (w_iret dL_act_456 rfl))
  · rw [if_neg e0] at C
    rw [if_neg e0]
    rcases hX with hX | hX | hX | hX
    · exact absurd hX e0
    · rw [hX] at C ⊢
      rw [if_pos rfl]
      exact w_callVx [] (⟨0, 456, 457, 105⟩ : ExceptionTableEntry) [(⟨0, 456, 462, 108⟩ : ExceptionTableEntry), (⟨0, 456, 467, 111⟩ : ExceptionTableEntry)] rfl (fun z hz => by cases hz) rfl (by decide) kx_L_105 (by decide +kernel) dL_act_271 kc_L_62 rfl rfl ho (by decide) (Nat.le_of_ble_eq_true rfl) C (fun q => jh_0)
    · rw [hX] at C ⊢
      rw [if_neg (by decide), if_pos rfl]
      exact w_callVx [(⟨0, 456, 457, 105⟩ : ExceptionTableEntry)] (⟨0, 456, 462, 108⟩ : ExceptionTableEntry) [(⟨0, 456, 467, 111⟩ : ExceptionTableEntry)] rfl (fun z hz => by
      simp only [List.mem_cons, List.not_mem_nil, or_false] at hz
      rcases hz with rfl
      · exact ⟨by decide, _, kx_L_105, by decide +kernel⟩) rfl (by decide) kx_L_108 (by decide +kernel) dL_act_271 kc_L_62 rfl rfl ho (by decide) (Nat.le_of_ble_eq_true rfl) C (fun q => jh_1)
    · rw [hX] at C ⊢
      rw [if_neg (by decide), if_neg (by decide)]
      exact w_callVx [(⟨0, 456, 457, 105⟩ : ExceptionTableEntry), (⟨0, 456, 462, 108⟩ : ExceptionTableEntry)] (⟨0, 456, 467, 111⟩ : ExceptionTableEntry) [] rfl (fun z hz => by
      simp only [List.mem_cons, List.not_mem_nil, or_false] at hz
      rcases hz with rfl | rfl
      · exact ⟨by decide, _, kx_L_105, by decide +kernel⟩
      · exact ⟨by decide, _, kx_L_108, by decide +kernel⟩) rfl (by decide) kx_L_111 (by decide +kernel) dL_act_271 kc_L_62 rfl rfl ho (by decide) (Nat.le_of_ble_eq_true rfl) C (fun q => jh_2)
theorem jl_14 {h0 h : k_H} {a : Nat} {x1 x2 x3 x4 x5 x6 x7 : Int32} {h' : k_H} {r : k_R} (J : jwA G l h0 h 271 (lvA a x1 x2 x3 x4 x5 x6 x7) [vI x2, vR (some a)] h' r) : jwA G l h0 h 269 (lvA a x1 x2 x3 x4 x5 x6 x7) [] h' r := w_aload_n dL_act_269 rfl rfl (w_iload_n dL_act_270 rfl rfl J)
theorem t_act_14 (hfl : l.flags = flags0) {h : k_H} {a : Nat} {x2 x3 x4 x5 x6 x7 : Int32} {R : s_M × Nat × Int32} {X : Nat → String} {P : k_H → Prop} (ho : k_is h a 14) (hX : R.2.1 = 0 ∨ X R.2.1 = x_IO ∨ X R.2.1 = x_IA ∨ X R.2.1 = x_IS) (C : k_ct (tX11_rank G l) [vR (some a), vI x2] h (fun H' r => P H' ∧ r = lp_r R X)) : k_cti (tL_act G l) [vR (some a), vI 14, vI x2, vI x3, vI x4, vI x5, vI x6, vI x7] h (fun H' v => P H' ∧ v = lp_code R X) := by
  obtain ⟨h1, J, p⟩ := jc_14 (h0 := h) (x1 := 14) ho hX C
  exact ⟨h1, _, k_CwOf (by decide +kernel) (Nat.le_of_ble_eq_true rfl) (jt_0 (by decide) (jt_1 (by decide) (jt_2 (by decide) (jt_3 (by decide) (jt_4 (by decide) (jt_5 (by decide) (jt_6 (by decide) (jt_7 (by decide) (jt_8 (by decide) (jt_9 (by decide) (jt_10 (by decide) (jt_11 (by decide) (jt_12 (by decide) (jt_13 (by decide) (jb_14 rfl (jl_14 J)))))))))))))))) hfl, p, rfl⟩
theorem jc_15 {h0 h : k_H} {a : Nat} {x1 x2 x3 x4 x5 x6 x7 : Int32} {R : s_M × Nat × Int32} {X : Nat → String} {P : k_H → Prop} (ho : k_is h a 14) (hX : R.2.1 = 0 ∨ X R.2.1 = x_IO ∨ X R.2.1 = x_IA ∨ X R.2.1 = x_IS) (C : k_ct (tX11_rankAnew G l) [vR (some a), vI x2] h (fun H' r => P H' ∧ r = lp_r R X)) : ∃ h', jwA G l h0 h 285 (lvA a x1 x2 x3 x4 x5 x6 x7) [vI x2, vR (some a)] h' (.inl (some (vI (lp_code R X)))) ∧ P h' := by
  obtain ⟨h1, r, C, p, rfl⟩ := C
  refine ⟨h1, ?_, p⟩
  unfold lp_r at C
  unfold lp_code
  by_cases e0 : R.2.1 = 0
  · rw [if_pos e0] at C
    rw [if_pos e0]
    exact w_callV dL_act_285 kc_L_65 rfl rfl ho (by decide) (Nat.le_of_ble_eq_true rfl) C (w_goto (tgt := 456) dL_act_288 (by decide) (w_iret dL_act_456 rfl))
  · rw [if_neg e0] at C
    rw [if_neg e0]
    rcases hX with hX | hX | hX | hX
    · exact absurd hX e0
    · rw [hX] at C ⊢
      rw [if_pos rfl]
      exact w_callVx [] (⟨0, 456, 457, 105⟩ : ExceptionTableEntry) [(⟨0, 456, 462, 108⟩ : ExceptionTableEntry), (⟨0, 456, 467, 111⟩ : ExceptionTableEntry)] rfl (fun z hz => by cases hz) rfl (by decide) kx_L_105 (by decide +kernel) dL_act_285 kc_L_65 rfl rfl ho (by decide) (Nat.le_of_ble_eq_true rfl) C (fun q => jh_0)
    · rw [hX] at C ⊢
      rw [if_neg (by decide), if_pos rfl]
      exact w_callVx [(⟨0, 456, 457, 105⟩ : ExceptionTableEntry)] (⟨0, 456, 462, 108⟩ : ExceptionTableEntry) [(⟨0, 456, 467, 111⟩ : ExceptionTableEntry)] rfl (fun z hz => by
      simp only [List.mem_cons, List.not_mem_nil, or_false] at hz
      rcases hz with rfl
      · exact ⟨by decide, _, kx_L_105, by decide +kernel⟩) rfl (by decide) kx_L_108 (by decide +kernel) dL_act_285 kc_L_65 rfl rfl ho (by decide) (Nat.le_of_ble_eq_true rfl) C (fun q => jh_1)
    · rw [hX] at C ⊢
      rw [if_neg (by decide), if_neg (by decide)]
      exact w_callVx [(⟨0, 456, 457, 105⟩ : ExceptionTableEntry), (⟨0, 456, 462, 108⟩ : ExceptionTableEntry)] (⟨0, 456, 467, 111⟩ : ExceptionTableEntry) [] rfl (fun z hz => by
      simp only [List.mem_cons, List.not_mem_nil, or_false] at hz
      rcases hz with rfl | rfl
      · exact ⟨by decide, _, kx_L_105, by decide +kernel⟩
      · exact ⟨by decide, _, kx_L_108, by decide +kernel⟩) rfl (by decide) kx_L_111 (by decide +kernel) dL_act_285 kc_L_65 rfl rfl ho (by decide) (Nat.le_of_ble_eq_true rfl) C (fun q => jh_2)
theorem jl_15 {h0 h : k_H} {a : Nat} {x1 x2 x3 x4 x5 x6 x7 : Int32} {h' : k_H} {r : k_R} (J : jwA G l h0 h 285 (lvA a x1 x2 x3 x4 x5 x6 x7) [vI x2, vR (some a)] h' r) : jwA G l h0 h 283 (lvA a x1 x2 x3 x4 x5 x6 x7) [] h' r := w_aload_n dL_act_283 rfl rfl (w_iload_n dL_act_284 rfl rfl J)
theorem t_act_15 (hfl : l.flags = flags0) {h : k_H} {a : Nat} {x2 x3 x4 x5 x6 x7 : Int32} {R : s_M × Nat × Int32} {X : Nat → String} {P : k_H → Prop} (ho : k_is h a 14) (hX : R.2.1 = 0 ∨ X R.2.1 = x_IO ∨ X R.2.1 = x_IA ∨ X R.2.1 = x_IS) (C : k_ct (tX11_rankAnew G l) [vR (some a), vI x2] h (fun H' r => P H' ∧ r = lp_r R X)) : k_cti (tL_act G l) [vR (some a), vI 15, vI x2, vI x3, vI x4, vI x5, vI x6, vI x7] h (fun H' v => P H' ∧ v = lp_code R X) := by
  obtain ⟨h1, J, p⟩ := jc_15 (h0 := h) (x1 := 15) ho hX C
  exact ⟨h1, _, k_CwOf (by decide +kernel) (Nat.le_of_ble_eq_true rfl) (jt_0 (by decide) (jt_1 (by decide) (jt_2 (by decide) (jt_3 (by decide) (jt_4 (by decide) (jt_5 (by decide) (jt_6 (by decide) (jt_7 (by decide) (jt_8 (by decide) (jt_9 (by decide) (jt_10 (by decide) (jt_11 (by decide) (jt_12 (by decide) (jt_13 (by decide) (jt_14 (by decide) (jb_15 rfl (jl_15 J))))))))))))))))) hfl, p, rfl⟩
theorem jc_16 {h0 h : k_H} {a : Nat} {x1 x2 x3 x4 x5 x6 x7 : Int32} {R : s_M × Nat × Int32} {X : Nat → String} {P : k_H → Prop} (ho : k_is h a 14) (hX : R.2.1 = 0 ∨ X R.2.1 = x_IO ∨ X R.2.1 = x_IA ∨ X R.2.1 = x_IS) (C : k_ct (tX11_watch G l) [vR (some a), vI x2, vI x3, vI x4] h (fun H' r => P H' ∧ r = lp_r R X)) : ∃ h', jwA G l h0 h 302 (lvA a x1 x2 x3 x4 x5 x6 x7) [vI x4, vI x3, vI x2, vR (some a)] h' (.inl (some (vI (lp_code R X)))) ∧ P h' := by
  obtain ⟨h1, r, C, p, rfl⟩ := C
  refine ⟨h1, ?_, p⟩
  unfold lp_r at C
  unfold lp_code
  by_cases e0 : R.2.1 = 0
  · rw [if_pos e0] at C
    rw [if_pos e0]
    exact w_callV dL_act_302 kc_L_68 rfl rfl ho (by decide) (Nat.le_of_ble_eq_true rfl) C (w_goto (tgt := 456) dL_act_305 (by decide) (w_iret dL_act_456 rfl))
  · rw [if_neg e0] at C
    rw [if_neg e0]
    rcases hX with hX | hX | hX | hX
    · exact absurd hX e0
    · rw [hX] at C ⊢
      rw [if_pos rfl]
      exact w_callVx [] (⟨0, 456, 457, 105⟩ : ExceptionTableEntry) [(⟨0, 456, 462, 108⟩ : ExceptionTableEntry), (⟨0, 456, 467, 111⟩ : ExceptionTableEntry)] rfl (fun z hz => by cases hz) rfl (by decide) kx_L_105 (by decide +kernel) dL_act_302 kc_L_68 rfl rfl ho (by decide) (Nat.le_of_ble_eq_true rfl) C (fun q => jh_0)
    · rw [hX] at C ⊢
      rw [if_neg (by decide), if_pos rfl]
      exact w_callVx [(⟨0, 456, 457, 105⟩ : ExceptionTableEntry)] (⟨0, 456, 462, 108⟩ : ExceptionTableEntry) [(⟨0, 456, 467, 111⟩ : ExceptionTableEntry)] rfl (fun z hz => by
      simp only [List.mem_cons, List.not_mem_nil, or_false] at hz
      rcases hz with rfl
      · exact ⟨by decide, _, kx_L_105, by decide +kernel⟩) rfl (by decide) kx_L_108 (by decide +kernel) dL_act_302 kc_L_68 rfl rfl ho (by decide) (Nat.le_of_ble_eq_true rfl) C (fun q => jh_1)
    · rw [hX] at C ⊢
      rw [if_neg (by decide), if_neg (by decide)]
      exact w_callVx [(⟨0, 456, 457, 105⟩ : ExceptionTableEntry), (⟨0, 456, 462, 108⟩ : ExceptionTableEntry)] (⟨0, 456, 467, 111⟩ : ExceptionTableEntry) [] rfl (fun z hz => by
      simp only [List.mem_cons, List.not_mem_nil, or_false] at hz
      rcases hz with rfl | rfl
      · exact ⟨by decide, _, kx_L_105, by decide +kernel⟩
      · exact ⟨by decide, _, kx_L_108, by decide +kernel⟩) rfl (by decide) kx_L_111 (by decide +kernel) dL_act_302 kc_L_68 rfl rfl ho (by decide) (Nat.le_of_ble_eq_true rfl) C (fun q => jh_2)
theorem jl_16 {h0 h : k_H} {a : Nat} {x1 x2 x3 x4 x5 x6 x7 : Int32} {h' : k_H} {r : k_R} (J : jwA G l h0 h 302 (lvA a x1 x2 x3 x4 x5 x6 x7) [vI x4, vI x3, vI x2, vR (some a)] h' r) : jwA G l h0 h 297 (lvA a x1 x2 x3 x4 x5 x6 x7) [] h' r := w_aload_n dL_act_297 rfl rfl (w_iload_n dL_act_298 rfl rfl (w_iload_n dL_act_299 rfl rfl (w_iload dL_act_300 rfl J)))
theorem t_act_16 (hfl : l.flags = flags0) {h : k_H} {a : Nat} {x2 x3 x4 x5 x6 x7 : Int32} {R : s_M × Nat × Int32} {X : Nat → String} {P : k_H → Prop} (ho : k_is h a 14) (hX : R.2.1 = 0 ∨ X R.2.1 = x_IO ∨ X R.2.1 = x_IA ∨ X R.2.1 = x_IS) (C : k_ct (tX11_watch G l) [vR (some a), vI x2, vI x3, vI x4] h (fun H' r => P H' ∧ r = lp_r R X)) : k_cti (tL_act G l) [vR (some a), vI 16, vI x2, vI x3, vI x4, vI x5, vI x6, vI x7] h (fun H' v => P H' ∧ v = lp_code R X) := by
  obtain ⟨h1, J, p⟩ := jc_16 (h0 := h) (x1 := 16) ho hX C
  exact ⟨h1, _, k_CwOf (by decide +kernel) (Nat.le_of_ble_eq_true rfl) (jt_0 (by decide) (jt_1 (by decide) (jt_2 (by decide) (jt_3 (by decide) (jt_4 (by decide) (jt_5 (by decide) (jt_6 (by decide) (jt_7 (by decide) (jt_8 (by decide) (jt_9 (by decide) (jt_10 (by decide) (jt_11 (by decide) (jt_12 (by decide) (jt_13 (by decide) (jt_14 (by decide) (jt_15 (by decide) (jb_16 rfl (jl_16 J)))))))))))))))))) hfl, p, rfl⟩
theorem jc_17 {h0 h : k_H} {a : Nat} {x1 x2 x3 x4 x5 x6 x7 : Int32} {R : s_M × Nat × Int32} {X : Nat → String} {P : k_H → Prop} (ho : k_is h a 14) (hX : R.2.1 = 0 ∨ X R.2.1 = x_IO ∨ X R.2.1 = x_IA ∨ X R.2.1 = x_IS) (C : k_ct (tX11_fired G l) [vR (some a), vI x2] h (fun H' r => P H' ∧ r = lp_r R X)) : ∃ h', jwA G l h0 h 316 (lvA a x1 x2 x3 x4 x5 x6 x7) [vI x2, vR (some a)] h' (.inl (some (vI (lp_code R X)))) ∧ P h' := by
  obtain ⟨h1, r, C, p, rfl⟩ := C
  refine ⟨h1, ?_, p⟩
  unfold lp_r at C
  unfold lp_code
  by_cases e0 : R.2.1 = 0
  · rw [if_pos e0] at C
    rw [if_pos e0]
    exact w_callV dL_act_316 kc_L_71 rfl rfl ho (by decide) (Nat.le_of_ble_eq_true rfl) C (w_goto (tgt := 456) dL_act_319 (by decide) (w_iret dL_act_456 rfl))
  · rw [if_neg e0] at C
    rw [if_neg e0]
    rcases hX with hX | hX | hX | hX
    · exact absurd hX e0
    · rw [hX] at C ⊢
      rw [if_pos rfl]
      exact w_callVx [] (⟨0, 456, 457, 105⟩ : ExceptionTableEntry) [(⟨0, 456, 462, 108⟩ : ExceptionTableEntry), (⟨0, 456, 467, 111⟩ : ExceptionTableEntry)] rfl (fun z hz => by cases hz) rfl (by decide) kx_L_105 (by decide +kernel) dL_act_316 kc_L_71 rfl rfl ho (by decide) (Nat.le_of_ble_eq_true rfl) C (fun q => jh_0)
    · rw [hX] at C ⊢
      rw [if_neg (by decide), if_pos rfl]
      exact w_callVx [(⟨0, 456, 457, 105⟩ : ExceptionTableEntry)] (⟨0, 456, 462, 108⟩ : ExceptionTableEntry) [(⟨0, 456, 467, 111⟩ : ExceptionTableEntry)] rfl (fun z hz => by
      simp only [List.mem_cons, List.not_mem_nil, or_false] at hz
      rcases hz with rfl
      · exact ⟨by decide, _, kx_L_105, by decide +kernel⟩) rfl (by decide) kx_L_108 (by decide +kernel) dL_act_316 kc_L_71 rfl rfl ho (by decide) (Nat.le_of_ble_eq_true rfl) C (fun q => jh_1)
    · rw [hX] at C ⊢
      rw [if_neg (by decide), if_neg (by decide)]
      exact w_callVx [(⟨0, 456, 457, 105⟩ : ExceptionTableEntry), (⟨0, 456, 462, 108⟩ : ExceptionTableEntry)] (⟨0, 456, 467, 111⟩ : ExceptionTableEntry) [] rfl (fun z hz => by
      simp only [List.mem_cons, List.not_mem_nil, or_false] at hz
      rcases hz with rfl | rfl
      · exact ⟨by decide, _, kx_L_105, by decide +kernel⟩
      · exact ⟨by decide, _, kx_L_108, by decide +kernel⟩) rfl (by decide) kx_L_111 (by decide +kernel) dL_act_316 kc_L_71 rfl rfl ho (by decide) (Nat.le_of_ble_eq_true rfl) C (fun q => jh_2)
theorem jl_17 {h0 h : k_H} {a : Nat} {x1 x2 x3 x4 x5 x6 x7 : Int32} {h' : k_H} {r : k_R} (J : jwA G l h0 h 316 (lvA a x1 x2 x3 x4 x5 x6 x7) [vI x2, vR (some a)] h' r) : jwA G l h0 h 314 (lvA a x1 x2 x3 x4 x5 x6 x7) [] h' r := w_aload_n dL_act_314 rfl rfl (w_iload_n dL_act_315 rfl rfl J)
theorem t_act_17 (hfl : l.flags = flags0) {h : k_H} {a : Nat} {x2 x3 x4 x5 x6 x7 : Int32} {R : s_M × Nat × Int32} {X : Nat → String} {P : k_H → Prop} (ho : k_is h a 14) (hX : R.2.1 = 0 ∨ X R.2.1 = x_IO ∨ X R.2.1 = x_IA ∨ X R.2.1 = x_IS) (C : k_ct (tX11_fired G l) [vR (some a), vI x2] h (fun H' r => P H' ∧ r = lp_r R X)) : k_cti (tL_act G l) [vR (some a), vI 17, vI x2, vI x3, vI x4, vI x5, vI x6, vI x7] h (fun H' v => P H' ∧ v = lp_code R X) := by
  obtain ⟨h1, J, p⟩ := jc_17 (h0 := h) (x1 := 17) ho hX C
  exact ⟨h1, _, k_CwOf (by decide +kernel) (Nat.le_of_ble_eq_true rfl) (jt_0 (by decide) (jt_1 (by decide) (jt_2 (by decide) (jt_3 (by decide) (jt_4 (by decide) (jt_5 (by decide) (jt_6 (by decide) (jt_7 (by decide) (jt_8 (by decide) (jt_9 (by decide) (jt_10 (by decide) (jt_11 (by decide) (jt_12 (by decide) (jt_13 (by decide) (jt_14 (by decide) (jt_15 (by decide) (jt_16 (by decide) (jb_17 rfl (jl_17 J))))))))))))))))))) hfl, p, rfl⟩
theorem jc_18 {h0 h : k_H} {a : Nat} {x1 x2 x3 x4 x5 x6 x7 : Int32} {R : s_M × Nat × Int32} {X : Nat → String} {P : k_H → Prop} (ho : k_is h a 14) (hX : R.2.1 = 0 ∨ X R.2.1 = x_IO ∨ X R.2.1 = x_IA ∨ X R.2.1 = x_IS) (C : k_ct (tX11_offer G l) [vR (some a), vI x2, vI x3] h (fun H' r => P H' ∧ r = lp_r R X)) : ∃ h', jwA G l h0 h 331 (lvA a x1 x2 x3 x4 x5 x6 x7) [vI x3, vI x2, vR (some a)] h' (.inl (some (vI (lp_code R X)))) ∧ P h' := by
  obtain ⟨h1, r, C, p, rfl⟩ := C
  refine ⟨h1, ?_, p⟩
  unfold lp_r at C
  unfold lp_code
  by_cases e0 : R.2.1 = 0
  · rw [if_pos e0] at C
    rw [if_pos e0]
    exact w_callV dL_act_331 kc_L_74 rfl rfl ho (by decide) (Nat.le_of_ble_eq_true rfl) C (w_goto (tgt := 456) dL_act_334 (by decide) (w_iret dL_act_456 rfl))
  · rw [if_neg e0] at C
    rw [if_neg e0]
    rcases hX with hX | hX | hX | hX
    · exact absurd hX e0
    · rw [hX] at C ⊢
      rw [if_pos rfl]
      exact w_callVx [] (⟨0, 456, 457, 105⟩ : ExceptionTableEntry) [(⟨0, 456, 462, 108⟩ : ExceptionTableEntry), (⟨0, 456, 467, 111⟩ : ExceptionTableEntry)] rfl (fun z hz => by cases hz) rfl (by decide) kx_L_105 (by decide +kernel) dL_act_331 kc_L_74 rfl rfl ho (by decide) (Nat.le_of_ble_eq_true rfl) C (fun q => jh_0)
    · rw [hX] at C ⊢
      rw [if_neg (by decide), if_pos rfl]
      exact w_callVx [(⟨0, 456, 457, 105⟩ : ExceptionTableEntry)] (⟨0, 456, 462, 108⟩ : ExceptionTableEntry) [(⟨0, 456, 467, 111⟩ : ExceptionTableEntry)] rfl (fun z hz => by
      simp only [List.mem_cons, List.not_mem_nil, or_false] at hz
      rcases hz with rfl
      · exact ⟨by decide, _, kx_L_105, by decide +kernel⟩) rfl (by decide) kx_L_108 (by decide +kernel) dL_act_331 kc_L_74 rfl rfl ho (by decide) (Nat.le_of_ble_eq_true rfl) C (fun q => jh_1)
    · rw [hX] at C ⊢
      rw [if_neg (by decide), if_neg (by decide)]
      exact w_callVx [(⟨0, 456, 457, 105⟩ : ExceptionTableEntry), (⟨0, 456, 462, 108⟩ : ExceptionTableEntry)] (⟨0, 456, 467, 111⟩ : ExceptionTableEntry) [] rfl (fun z hz => by
      simp only [List.mem_cons, List.not_mem_nil, or_false] at hz
      rcases hz with rfl | rfl
      · exact ⟨by decide, _, kx_L_105, by decide +kernel⟩
      · exact ⟨by decide, _, kx_L_108, by decide +kernel⟩) rfl (by decide) kx_L_111 (by decide +kernel) dL_act_331 kc_L_74 rfl rfl ho (by decide) (Nat.le_of_ble_eq_true rfl) C (fun q => jh_2)
theorem jl_18 {h0 h : k_H} {a : Nat} {x1 x2 x3 x4 x5 x6 x7 : Int32} {h' : k_H} {r : k_R} (J : jwA G l h0 h 331 (lvA a x1 x2 x3 x4 x5 x6 x7) [vI x3, vI x2, vR (some a)] h' r) : jwA G l h0 h 328 (lvA a x1 x2 x3 x4 x5 x6 x7) [] h' r := w_aload_n dL_act_328 rfl rfl (w_iload_n dL_act_329 rfl rfl (w_iload_n dL_act_330 rfl rfl J))
theorem t_act_18 (hfl : l.flags = flags0) {h : k_H} {a : Nat} {x2 x3 x4 x5 x6 x7 : Int32} {R : s_M × Nat × Int32} {X : Nat → String} {P : k_H → Prop} (ho : k_is h a 14) (hX : R.2.1 = 0 ∨ X R.2.1 = x_IO ∨ X R.2.1 = x_IA ∨ X R.2.1 = x_IS) (C : k_ct (tX11_offer G l) [vR (some a), vI x2, vI x3] h (fun H' r => P H' ∧ r = lp_r R X)) : k_cti (tL_act G l) [vR (some a), vI 18, vI x2, vI x3, vI x4, vI x5, vI x6, vI x7] h (fun H' v => P H' ∧ v = lp_code R X) := by
  obtain ⟨h1, J, p⟩ := jc_18 (h0 := h) (x1 := 18) ho hX C
  exact ⟨h1, _, k_CwOf (by decide +kernel) (Nat.le_of_ble_eq_true rfl) (jt_0 (by decide) (jt_1 (by decide) (jt_2 (by decide) (jt_3 (by decide) (jt_4 (by decide) (jt_5 (by decide) (jt_6 (by decide) (jt_7 (by decide) (jt_8 (by decide) (jt_9 (by decide) (jt_10 (by decide) (jt_11 (by decide) (jt_12 (by decide) (jt_13 (by decide) (jt_14 (by decide) (jt_15 (by decide) (jt_16 (by decide) (jt_17 (by decide) (jb_18 rfl (jl_18 J)))))))))))))))))))) hfl, p, rfl⟩
theorem jc_19 {h0 h : k_H} {a : Nat} {x1 x2 x3 x4 x5 x6 x7 : Int32} {R : s_M × Nat × Int32} {X : Nat → String} {P : k_H → Prop} (ho : k_is h a 14) (hX : R.2.1 = 0 ∨ X R.2.1 = x_IO ∨ X R.2.1 = x_IA ∨ X R.2.1 = x_IS) (C : k_ct (tX11_take G l) [vR (some a), vI x2] h (fun H' r => P H' ∧ r = lp_r R X)) : ∃ h', jwA G l h0 h 345 (lvA a x1 x2 x3 x4 x5 x6 x7) [vI x2, vR (some a)] h' (.inl (some (vI (lp_code R X)))) ∧ P h' := by
  obtain ⟨h1, r, C, p, rfl⟩ := C
  refine ⟨h1, ?_, p⟩
  unfold lp_r at C
  unfold lp_code
  by_cases e0 : R.2.1 = 0
  · rw [if_pos e0] at C
    rw [if_pos e0]
    exact w_callV dL_act_345 kc_L_77 rfl rfl ho (by decide) (Nat.le_of_ble_eq_true rfl) C (w_goto (tgt := 456) dL_act_348 (by decide) (w_iret dL_act_456 rfl))
  · rw [if_neg e0] at C
    rw [if_neg e0]
    rcases hX with hX | hX | hX | hX
    · exact absurd hX e0
    · rw [hX] at C ⊢
      rw [if_pos rfl]
      exact w_callVx [] (⟨0, 456, 457, 105⟩ : ExceptionTableEntry) [(⟨0, 456, 462, 108⟩ : ExceptionTableEntry), (⟨0, 456, 467, 111⟩ : ExceptionTableEntry)] rfl (fun z hz => by cases hz) rfl (by decide) kx_L_105 (by decide +kernel) dL_act_345 kc_L_77 rfl rfl ho (by decide) (Nat.le_of_ble_eq_true rfl) C (fun q => jh_0)
    · rw [hX] at C ⊢
      rw [if_neg (by decide), if_pos rfl]
      exact w_callVx [(⟨0, 456, 457, 105⟩ : ExceptionTableEntry)] (⟨0, 456, 462, 108⟩ : ExceptionTableEntry) [(⟨0, 456, 467, 111⟩ : ExceptionTableEntry)] rfl (fun z hz => by
      simp only [List.mem_cons, List.not_mem_nil, or_false] at hz
      rcases hz with rfl
      · exact ⟨by decide, _, kx_L_105, by decide +kernel⟩) rfl (by decide) kx_L_108 (by decide +kernel) dL_act_345 kc_L_77 rfl rfl ho (by decide) (Nat.le_of_ble_eq_true rfl) C (fun q => jh_1)
    · rw [hX] at C ⊢
      rw [if_neg (by decide), if_neg (by decide)]
      exact w_callVx [(⟨0, 456, 457, 105⟩ : ExceptionTableEntry), (⟨0, 456, 462, 108⟩ : ExceptionTableEntry)] (⟨0, 456, 467, 111⟩ : ExceptionTableEntry) [] rfl (fun z hz => by
      simp only [List.mem_cons, List.not_mem_nil, or_false] at hz
      rcases hz with rfl | rfl
      · exact ⟨by decide, _, kx_L_105, by decide +kernel⟩
      · exact ⟨by decide, _, kx_L_108, by decide +kernel⟩) rfl (by decide) kx_L_111 (by decide +kernel) dL_act_345 kc_L_77 rfl rfl ho (by decide) (Nat.le_of_ble_eq_true rfl) C (fun q => jh_2)
theorem jl_19 {h0 h : k_H} {a : Nat} {x1 x2 x3 x4 x5 x6 x7 : Int32} {h' : k_H} {r : k_R} (J : jwA G l h0 h 345 (lvA a x1 x2 x3 x4 x5 x6 x7) [vI x2, vR (some a)] h' r) : jwA G l h0 h 343 (lvA a x1 x2 x3 x4 x5 x6 x7) [] h' r := w_aload_n dL_act_343 rfl rfl (w_iload_n dL_act_344 rfl rfl J)
theorem t_act_19 (hfl : l.flags = flags0) {h : k_H} {a : Nat} {x2 x3 x4 x5 x6 x7 : Int32} {R : s_M × Nat × Int32} {X : Nat → String} {P : k_H → Prop} (ho : k_is h a 14) (hX : R.2.1 = 0 ∨ X R.2.1 = x_IO ∨ X R.2.1 = x_IA ∨ X R.2.1 = x_IS) (C : k_ct (tX11_take G l) [vR (some a), vI x2] h (fun H' r => P H' ∧ r = lp_r R X)) : k_cti (tL_act G l) [vR (some a), vI 19, vI x2, vI x3, vI x4, vI x5, vI x6, vI x7] h (fun H' v => P H' ∧ v = lp_code R X) := by
  obtain ⟨h1, J, p⟩ := jc_19 (h0 := h) (x1 := 19) ho hX C
  exact ⟨h1, _, k_CwOf (by decide +kernel) (Nat.le_of_ble_eq_true rfl) (jt_0 (by decide) (jt_1 (by decide) (jt_2 (by decide) (jt_3 (by decide) (jt_4 (by decide) (jt_5 (by decide) (jt_6 (by decide) (jt_7 (by decide) (jt_8 (by decide) (jt_9 (by decide) (jt_10 (by decide) (jt_11 (by decide) (jt_12 (by decide) (jt_13 (by decide) (jt_14 (by decide) (jt_15 (by decide) (jt_16 (by decide) (jt_17 (by decide) (jt_18 (by decide) (jb_19 rfl (jl_19 J))))))))))))))))))))) hfl, p, rfl⟩
theorem jc_20 {h0 h : k_H} {a : Nat} {x1 x2 x3 x4 x5 x6 x7 : Int32} {R : s_M × Nat × Int32} {X : Nat → String} {P : k_H → Prop} (ho : k_is h a 14) (hX : R.2.1 = 0 ∨ X R.2.1 = x_IO ∨ X R.2.1 = x_IA ∨ X R.2.1 = x_IS) (C : k_ct (tX11_finish G l) [vR (some a), vI x2] h (fun H' r => P H' ∧ r = lp_r R X)) : ∃ h', jwA G l h0 h 359 (lvA a x1 x2 x3 x4 x5 x6 x7) [vI x2, vR (some a)] h' (.inl (some (vI (lp_code R X)))) ∧ P h' := by
  obtain ⟨h1, r, C, p, rfl⟩ := C
  refine ⟨h1, ?_, p⟩
  unfold lp_r at C
  unfold lp_code
  by_cases e0 : R.2.1 = 0
  · rw [if_pos e0] at C
    rw [if_pos e0]
    exact w_callV dL_act_359 kc_L_80 rfl rfl ho (by decide) (Nat.le_of_ble_eq_true rfl) C (w_goto (tgt := 456) dL_act_362 (by decide) (w_iret dL_act_456 rfl))
  · rw [if_neg e0] at C
    rw [if_neg e0]
    rcases hX with hX | hX | hX | hX
    · exact absurd hX e0
    · rw [hX] at C ⊢
      rw [if_pos rfl]
      exact w_callVx [] (⟨0, 456, 457, 105⟩ : ExceptionTableEntry) [(⟨0, 456, 462, 108⟩ : ExceptionTableEntry), (⟨0, 456, 467, 111⟩ : ExceptionTableEntry)] rfl (fun z hz => by cases hz) rfl (by decide) kx_L_105 (by decide +kernel) dL_act_359 kc_L_80 rfl rfl ho (by decide) (Nat.le_of_ble_eq_true rfl) C (fun q => jh_0)
    · rw [hX] at C ⊢
      rw [if_neg (by decide), if_pos rfl]
      exact w_callVx [(⟨0, 456, 457, 105⟩ : ExceptionTableEntry)] (⟨0, 456, 462, 108⟩ : ExceptionTableEntry) [(⟨0, 456, 467, 111⟩ : ExceptionTableEntry)] rfl (fun z hz => by
      simp only [List.mem_cons, List.not_mem_nil, or_false] at hz
      rcases hz with rfl
      · exact ⟨by decide, _, kx_L_105, by decide +kernel⟩) rfl (by decide) kx_L_108 (by decide +kernel) dL_act_359 kc_L_80 rfl rfl ho (by decide) (Nat.le_of_ble_eq_true rfl) C (fun q => jh_1)
    · rw [hX] at C ⊢
      rw [if_neg (by decide), if_neg (by decide)]
      exact w_callVx [(⟨0, 456, 457, 105⟩ : ExceptionTableEntry), (⟨0, 456, 462, 108⟩ : ExceptionTableEntry)] (⟨0, 456, 467, 111⟩ : ExceptionTableEntry) [] rfl (fun z hz => by
      simp only [List.mem_cons, List.not_mem_nil, or_false] at hz
      rcases hz with rfl | rfl
      · exact ⟨by decide, _, kx_L_105, by decide +kernel⟩
      · exact ⟨by decide, _, kx_L_108, by decide +kernel⟩) rfl (by decide) kx_L_111 (by decide +kernel) dL_act_359 kc_L_80 rfl rfl ho (by decide) (Nat.le_of_ble_eq_true rfl) C (fun q => jh_2)
theorem jl_20 {h0 h : k_H} {a : Nat} {x1 x2 x3 x4 x5 x6 x7 : Int32} {h' : k_H} {r : k_R} (J : jwA G l h0 h 359 (lvA a x1 x2 x3 x4 x5 x6 x7) [vI x2, vR (some a)] h' r) : jwA G l h0 h 357 (lvA a x1 x2 x3 x4 x5 x6 x7) [] h' r := w_aload_n dL_act_357 rfl rfl (w_iload_n dL_act_358 rfl rfl J)
theorem t_act_20 (hfl : l.flags = flags0) {h : k_H} {a : Nat} {x2 x3 x4 x5 x6 x7 : Int32} {R : s_M × Nat × Int32} {X : Nat → String} {P : k_H → Prop} (ho : k_is h a 14) (hX : R.2.1 = 0 ∨ X R.2.1 = x_IO ∨ X R.2.1 = x_IA ∨ X R.2.1 = x_IS) (C : k_ct (tX11_finish G l) [vR (some a), vI x2] h (fun H' r => P H' ∧ r = lp_r R X)) : k_cti (tL_act G l) [vR (some a), vI 20, vI x2, vI x3, vI x4, vI x5, vI x6, vI x7] h (fun H' v => P H' ∧ v = lp_code R X) := by
  obtain ⟨h1, J, p⟩ := jc_20 (h0 := h) (x1 := 20) ho hX C
  exact ⟨h1, _, k_CwOf (by decide +kernel) (Nat.le_of_ble_eq_true rfl) (jt_0 (by decide) (jt_1 (by decide) (jt_2 (by decide) (jt_3 (by decide) (jt_4 (by decide) (jt_5 (by decide) (jt_6 (by decide) (jt_7 (by decide) (jt_8 (by decide) (jt_9 (by decide) (jt_10 (by decide) (jt_11 (by decide) (jt_12 (by decide) (jt_13 (by decide) (jt_14 (by decide) (jt_15 (by decide) (jt_16 (by decide) (jt_17 (by decide) (jt_18 (by decide) (jt_19 (by decide) (jb_20 rfl (jl_20 J)))))))))))))))))))))) hfl, p, rfl⟩
theorem jc_21 {h0 h : k_H} {a : Nat} {x1 x2 x3 x4 x5 x6 x7 : Int32} {R : s_M × Nat × Int32} {X : Nat → String} {P : k_H → Prop} (ho : k_is h a 14) (hX : R.2.1 = 0 ∨ X R.2.1 = x_IO ∨ X R.2.1 = x_IA ∨ X R.2.1 = x_IS) (C : k_ct (tX11_part G l) [vR (some a), vI x2, vI x3] h (fun H' r => P H' ∧ r = lp_r R X)) : ∃ h', jwA G l h0 h 374 (lvA a x1 x2 x3 x4 x5 x6 x7) [vI x3, vI x2, vR (some a)] h' (.inl (some (vI (lp_code R X)))) ∧ P h' := by
  obtain ⟨h1, r, C, p, rfl⟩ := C
  refine ⟨h1, ?_, p⟩
  unfold lp_r at C
  unfold lp_code
  by_cases e0 : R.2.1 = 0
  · rw [if_pos e0] at C
    rw [if_pos e0]
    exact w_callV dL_act_374 kc_L_83 rfl rfl ho (by decide) (Nat.le_of_ble_eq_true rfl) C (w_goto (tgt := 456) dL_act_377 (by decide) (w_iret dL_act_456 rfl))
  · rw [if_neg e0] at C
    rw [if_neg e0]
    rcases hX with hX | hX | hX | hX
    · exact absurd hX e0
    · rw [hX] at C ⊢
      rw [if_pos rfl]
      exact w_callVx [] (⟨0, 456, 457, 105⟩ : ExceptionTableEntry) [(⟨0, 456, 462, 108⟩ : ExceptionTableEntry), (⟨0, 456, 467, 111⟩ : ExceptionTableEntry)] rfl (fun z hz => by cases hz) rfl (by decide) kx_L_105 (by decide +kernel) dL_act_374 kc_L_83 rfl rfl ho (by decide) (Nat.le_of_ble_eq_true rfl) C (fun q => jh_0)
    · rw [hX] at C ⊢
      rw [if_neg (by decide), if_pos rfl]
      exact w_callVx [(⟨0, 456, 457, 105⟩ : ExceptionTableEntry)] (⟨0, 456, 462, 108⟩ : ExceptionTableEntry) [(⟨0, 456, 467, 111⟩ : ExceptionTableEntry)] rfl (fun z hz => by
      simp only [List.mem_cons, List.not_mem_nil, or_false] at hz
      rcases hz with rfl
      · exact ⟨by decide, _, kx_L_105, by decide +kernel⟩) rfl (by decide) kx_L_108 (by decide +kernel) dL_act_374 kc_L_83 rfl rfl ho (by decide) (Nat.le_of_ble_eq_true rfl) C (fun q => jh_1)
    · rw [hX] at C ⊢
      rw [if_neg (by decide), if_neg (by decide)]
      exact w_callVx [(⟨0, 456, 457, 105⟩ : ExceptionTableEntry), (⟨0, 456, 462, 108⟩ : ExceptionTableEntry)] (⟨0, 456, 467, 111⟩ : ExceptionTableEntry) [] rfl (fun z hz => by
      simp only [List.mem_cons, List.not_mem_nil, or_false] at hz
      rcases hz with rfl | rfl
      · exact ⟨by decide, _, kx_L_105, by decide +kernel⟩
      · exact ⟨by decide, _, kx_L_108, by decide +kernel⟩) rfl (by decide) kx_L_111 (by decide +kernel) dL_act_374 kc_L_83 rfl rfl ho (by decide) (Nat.le_of_ble_eq_true rfl) C (fun q => jh_2)
theorem jl_21 {h0 h : k_H} {a : Nat} {x1 x2 x3 x4 x5 x6 x7 : Int32} {h' : k_H} {r : k_R} (J : jwA G l h0 h 374 (lvA a x1 x2 x3 x4 x5 x6 x7) [vI x3, vI x2, vR (some a)] h' r) : jwA G l h0 h 371 (lvA a x1 x2 x3 x4 x5 x6 x7) [] h' r := w_aload_n dL_act_371 rfl rfl (w_iload_n dL_act_372 rfl rfl (w_iload_n dL_act_373 rfl rfl J))
theorem t_act_21 (hfl : l.flags = flags0) {h : k_H} {a : Nat} {x2 x3 x4 x5 x6 x7 : Int32} {R : s_M × Nat × Int32} {X : Nat → String} {P : k_H → Prop} (ho : k_is h a 14) (hX : R.2.1 = 0 ∨ X R.2.1 = x_IO ∨ X R.2.1 = x_IA ∨ X R.2.1 = x_IS) (C : k_ct (tX11_part G l) [vR (some a), vI x2, vI x3] h (fun H' r => P H' ∧ r = lp_r R X)) : k_cti (tL_act G l) [vR (some a), vI 21, vI x2, vI x3, vI x4, vI x5, vI x6, vI x7] h (fun H' v => P H' ∧ v = lp_code R X) := by
  obtain ⟨h1, J, p⟩ := jc_21 (h0 := h) (x1 := 21) ho hX C
  exact ⟨h1, _, k_CwOf (by decide +kernel) (Nat.le_of_ble_eq_true rfl) (jt_0 (by decide) (jt_1 (by decide) (jt_2 (by decide) (jt_3 (by decide) (jt_4 (by decide) (jt_5 (by decide) (jt_6 (by decide) (jt_7 (by decide) (jt_8 (by decide) (jt_9 (by decide) (jt_10 (by decide) (jt_11 (by decide) (jt_12 (by decide) (jt_13 (by decide) (jt_14 (by decide) (jt_15 (by decide) (jt_16 (by decide) (jt_17 (by decide) (jt_18 (by decide) (jt_19 (by decide) (jt_20 (by decide) (jb_21 rfl (jl_21 J))))))))))))))))))))))) hfl, p, rfl⟩
theorem jc_22 {h0 h : k_H} {a : Nat} {x1 x2 x3 x4 x5 x6 x7 : Int32} {R : s_M × Nat × Int32} {X : Nat → String} {P : k_H → Prop} (ho : k_is h a 14) (hX : R.2.1 = 0 ∨ X R.2.1 = x_IO ∨ X R.2.1 = x_IA ∨ X R.2.1 = x_IS) (C : k_ct (tX11_mark G l) [vR (some a)] h (fun H' r => P H' ∧ r = lp_r R X)) : ∃ h', jwA G l h0 h 387 (lvA a x1 x2 x3 x4 x5 x6 x7) [vR (some a)] h' (.inl (some (vI (lp_code R X)))) ∧ P h' := by
  obtain ⟨h1, r, C, p, rfl⟩ := C
  refine ⟨h1, ?_, p⟩
  unfold lp_r at C
  unfold lp_code
  by_cases e0 : R.2.1 = 0
  · rw [if_pos e0] at C
    rw [if_pos e0]
    exact w_callV dL_act_387 kc_L_86 rfl rfl ho (by decide) (Nat.le_of_ble_eq_true rfl) C (w_goto (tgt := 456) dL_act_390 (by decide) (w_iret dL_act_456 rfl))
  · rw [if_neg e0] at C
    rw [if_neg e0]
    rcases hX with hX | hX | hX | hX
    · exact absurd hX e0
    · rw [hX] at C ⊢
      rw [if_pos rfl]
      exact w_callVx [] (⟨0, 456, 457, 105⟩ : ExceptionTableEntry) [(⟨0, 456, 462, 108⟩ : ExceptionTableEntry), (⟨0, 456, 467, 111⟩ : ExceptionTableEntry)] rfl (fun z hz => by cases hz) rfl (by decide) kx_L_105 (by decide +kernel) dL_act_387 kc_L_86 rfl rfl ho (by decide) (Nat.le_of_ble_eq_true rfl) C (fun q => jh_0)
    · rw [hX] at C ⊢
      rw [if_neg (by decide), if_pos rfl]
      exact w_callVx [(⟨0, 456, 457, 105⟩ : ExceptionTableEntry)] (⟨0, 456, 462, 108⟩ : ExceptionTableEntry) [(⟨0, 456, 467, 111⟩ : ExceptionTableEntry)] rfl (fun z hz => by
      simp only [List.mem_cons, List.not_mem_nil, or_false] at hz
      rcases hz with rfl
      · exact ⟨by decide, _, kx_L_105, by decide +kernel⟩) rfl (by decide) kx_L_108 (by decide +kernel) dL_act_387 kc_L_86 rfl rfl ho (by decide) (Nat.le_of_ble_eq_true rfl) C (fun q => jh_1)
    · rw [hX] at C ⊢
      rw [if_neg (by decide), if_neg (by decide)]
      exact w_callVx [(⟨0, 456, 457, 105⟩ : ExceptionTableEntry), (⟨0, 456, 462, 108⟩ : ExceptionTableEntry)] (⟨0, 456, 467, 111⟩ : ExceptionTableEntry) [] rfl (fun z hz => by
      simp only [List.mem_cons, List.not_mem_nil, or_false] at hz
      rcases hz with rfl | rfl
      · exact ⟨by decide, _, kx_L_105, by decide +kernel⟩
      · exact ⟨by decide, _, kx_L_108, by decide +kernel⟩) rfl (by decide) kx_L_111 (by decide +kernel) dL_act_387 kc_L_86 rfl rfl ho (by decide) (Nat.le_of_ble_eq_true rfl) C (fun q => jh_2)
theorem jl_22 {h0 h : k_H} {a : Nat} {x1 x2 x3 x4 x5 x6 x7 : Int32} {h' : k_H} {r : k_R} (J : jwA G l h0 h 387 (lvA a x1 x2 x3 x4 x5 x6 x7) [vR (some a)] h' r) : jwA G l h0 h 386 (lvA a x1 x2 x3 x4 x5 x6 x7) [] h' r := w_aload_n dL_act_386 rfl rfl J
theorem t_act_22 (hfl : l.flags = flags0) {h : k_H} {a : Nat} {x2 x3 x4 x5 x6 x7 : Int32} {R : s_M × Nat × Int32} {X : Nat → String} {P : k_H → Prop} (ho : k_is h a 14) (hX : R.2.1 = 0 ∨ X R.2.1 = x_IO ∨ X R.2.1 = x_IA ∨ X R.2.1 = x_IS) (C : k_ct (tX11_mark G l) [vR (some a)] h (fun H' r => P H' ∧ r = lp_r R X)) : k_cti (tL_act G l) [vR (some a), vI 22, vI x2, vI x3, vI x4, vI x5, vI x6, vI x7] h (fun H' v => P H' ∧ v = lp_code R X) := by
  obtain ⟨h1, J, p⟩ := jc_22 (h0 := h) (x1 := 22) ho hX C
  exact ⟨h1, _, k_CwOf (by decide +kernel) (Nat.le_of_ble_eq_true rfl) (jt_0 (by decide) (jt_1 (by decide) (jt_2 (by decide) (jt_3 (by decide) (jt_4 (by decide) (jt_5 (by decide) (jt_6 (by decide) (jt_7 (by decide) (jt_8 (by decide) (jt_9 (by decide) (jt_10 (by decide) (jt_11 (by decide) (jt_12 (by decide) (jt_13 (by decide) (jt_14 (by decide) (jt_15 (by decide) (jt_16 (by decide) (jt_17 (by decide) (jt_18 (by decide) (jt_19 (by decide) (jt_20 (by decide) (jt_21 (by decide) (jb_22 rfl (jl_22 J)))))))))))))))))))))))) hfl, p, rfl⟩
theorem jc_23 {h0 h : k_H} {a : Nat} {x1 x2 x3 x4 x5 x6 x7 : Int32} {R : s_M × Nat × Int32} {X : Nat → String} {P : k_H → Prop} (ho : k_is h a 14) (hX : R.2.1 = 0 ∨ X R.2.1 = x_IO ∨ X R.2.1 = x_IA ∨ X R.2.1 = x_IS) (C : k_ct (tX11_bringBack G l) [vR (some a), vI x2] h (fun H' r => P H' ∧ r = lp_r R X)) : ∃ h', jwA G l h0 h 401 (lvA a x1 x2 x3 x4 x5 x6 x7) [vI x2, vR (some a)] h' (.inl (some (vI (lp_code R X)))) ∧ P h' := by
  obtain ⟨h1, r, C, p, rfl⟩ := C
  refine ⟨h1, ?_, p⟩
  unfold lp_r at C
  unfold lp_code
  by_cases e0 : R.2.1 = 0
  · rw [if_pos e0] at C
    rw [if_pos e0]
    exact w_callV dL_act_401 kc_L_90 rfl rfl ho (by decide) (Nat.le_of_ble_eq_true rfl) C (w_goto (tgt := 456) dL_act_404 (by decide) (w_iret dL_act_456 rfl))
  · rw [if_neg e0] at C
    rw [if_neg e0]
    rcases hX with hX | hX | hX | hX
    · exact absurd hX e0
    · rw [hX] at C ⊢
      rw [if_pos rfl]
      exact w_callVx [] (⟨0, 456, 457, 105⟩ : ExceptionTableEntry) [(⟨0, 456, 462, 108⟩ : ExceptionTableEntry), (⟨0, 456, 467, 111⟩ : ExceptionTableEntry)] rfl (fun z hz => by cases hz) rfl (by decide) kx_L_105 (by decide +kernel) dL_act_401 kc_L_90 rfl rfl ho (by decide) (Nat.le_of_ble_eq_true rfl) C (fun q => jh_0)
    · rw [hX] at C ⊢
      rw [if_neg (by decide), if_pos rfl]
      exact w_callVx [(⟨0, 456, 457, 105⟩ : ExceptionTableEntry)] (⟨0, 456, 462, 108⟩ : ExceptionTableEntry) [(⟨0, 456, 467, 111⟩ : ExceptionTableEntry)] rfl (fun z hz => by
      simp only [List.mem_cons, List.not_mem_nil, or_false] at hz
      rcases hz with rfl
      · exact ⟨by decide, _, kx_L_105, by decide +kernel⟩) rfl (by decide) kx_L_108 (by decide +kernel) dL_act_401 kc_L_90 rfl rfl ho (by decide) (Nat.le_of_ble_eq_true rfl) C (fun q => jh_1)
    · rw [hX] at C ⊢
      rw [if_neg (by decide), if_neg (by decide)]
      exact w_callVx [(⟨0, 456, 457, 105⟩ : ExceptionTableEntry), (⟨0, 456, 462, 108⟩ : ExceptionTableEntry)] (⟨0, 456, 467, 111⟩ : ExceptionTableEntry) [] rfl (fun z hz => by
      simp only [List.mem_cons, List.not_mem_nil, or_false] at hz
      rcases hz with rfl | rfl
      · exact ⟨by decide, _, kx_L_105, by decide +kernel⟩
      · exact ⟨by decide, _, kx_L_108, by decide +kernel⟩) rfl (by decide) kx_L_111 (by decide +kernel) dL_act_401 kc_L_90 rfl rfl ho (by decide) (Nat.le_of_ble_eq_true rfl) C (fun q => jh_2)
theorem jl_23 {h0 h : k_H} {a : Nat} {x1 x2 x3 x4 x5 x6 x7 : Int32} {h' : k_H} {r : k_R} (J : jwA G l h0 h 401 (lvA a x1 x2 x3 x4 x5 x6 x7) [vI x2, vR (some a)] h' r) : jwA G l h0 h 399 (lvA a x1 x2 x3 x4 x5 x6 x7) [] h' r := w_aload_n dL_act_399 rfl rfl (w_iload_n dL_act_400 rfl rfl J)
theorem t_act_23 (hfl : l.flags = flags0) {h : k_H} {a : Nat} {x2 x3 x4 x5 x6 x7 : Int32} {R : s_M × Nat × Int32} {X : Nat → String} {P : k_H → Prop} (ho : k_is h a 14) (hX : R.2.1 = 0 ∨ X R.2.1 = x_IO ∨ X R.2.1 = x_IA ∨ X R.2.1 = x_IS) (C : k_ct (tX11_bringBack G l) [vR (some a), vI x2] h (fun H' r => P H' ∧ r = lp_r R X)) : k_cti (tL_act G l) [vR (some a), vI 23, vI x2, vI x3, vI x4, vI x5, vI x6, vI x7] h (fun H' v => P H' ∧ v = lp_code R X) := by
  obtain ⟨h1, J, p⟩ := jc_23 (h0 := h) (x1 := 23) ho hX C
  exact ⟨h1, _, k_CwOf (by decide +kernel) (Nat.le_of_ble_eq_true rfl) (jt_0 (by decide) (jt_1 (by decide) (jt_2 (by decide) (jt_3 (by decide) (jt_4 (by decide) (jt_5 (by decide) (jt_6 (by decide) (jt_7 (by decide) (jt_8 (by decide) (jt_9 (by decide) (jt_10 (by decide) (jt_11 (by decide) (jt_12 (by decide) (jt_13 (by decide) (jt_14 (by decide) (jt_15 (by decide) (jt_16 (by decide) (jt_17 (by decide) (jt_18 (by decide) (jt_19 (by decide) (jt_20 (by decide) (jt_21 (by decide) (jt_22 (by decide) (jb_23 rfl (jl_23 J))))))))))))))))))))))))) hfl, p, rfl⟩
theorem jc_24 {h0 h : k_H} {a : Nat} {x1 x2 x3 x4 x5 x6 x7 : Int32} {R : s_M × Nat × Int32} {X : Nat → String} {P : k_H → Prop} (ho : k_is h a 14) (hX : R.2.1 = 0 ∨ X R.2.1 = x_IO ∨ X R.2.1 = x_IA ∨ X R.2.1 = x_IS) (C : k_ct (tX11_directory G l) [vR (some a), vI x2, vI x3] h (fun H' r => P H' ∧ r = lp_r R X)) : ∃ h', jwA G l h0 h 416 (lvA a x1 x2 x3 x4 x5 x6 x7) [vI x3, vI x2, vR (some a)] h' (.inl (some (vI (lp_code R X)))) ∧ P h' := by
  obtain ⟨h1, r, C, p, rfl⟩ := C
  refine ⟨h1, ?_, p⟩
  unfold lp_r at C
  unfold lp_code
  by_cases e0 : R.2.1 = 0
  · rw [if_pos e0] at C
    rw [if_pos e0]
    exact w_callV dL_act_416 kc_L_93 rfl rfl ho (by decide) (Nat.le_of_ble_eq_true rfl) C (w_goto (tgt := 456) dL_act_419 (by decide) (w_iret dL_act_456 rfl))
  · rw [if_neg e0] at C
    rw [if_neg e0]
    rcases hX with hX | hX | hX | hX
    · exact absurd hX e0
    · rw [hX] at C ⊢
      rw [if_pos rfl]
      exact w_callVx [] (⟨0, 456, 457, 105⟩ : ExceptionTableEntry) [(⟨0, 456, 462, 108⟩ : ExceptionTableEntry), (⟨0, 456, 467, 111⟩ : ExceptionTableEntry)] rfl (fun z hz => by cases hz) rfl (by decide) kx_L_105 (by decide +kernel) dL_act_416 kc_L_93 rfl rfl ho (by decide) (Nat.le_of_ble_eq_true rfl) C (fun q => jh_0)
    · rw [hX] at C ⊢
      rw [if_neg (by decide), if_pos rfl]
      exact w_callVx [(⟨0, 456, 457, 105⟩ : ExceptionTableEntry)] (⟨0, 456, 462, 108⟩ : ExceptionTableEntry) [(⟨0, 456, 467, 111⟩ : ExceptionTableEntry)] rfl (fun z hz => by
      simp only [List.mem_cons, List.not_mem_nil, or_false] at hz
      rcases hz with rfl
      · exact ⟨by decide, _, kx_L_105, by decide +kernel⟩) rfl (by decide) kx_L_108 (by decide +kernel) dL_act_416 kc_L_93 rfl rfl ho (by decide) (Nat.le_of_ble_eq_true rfl) C (fun q => jh_1)
    · rw [hX] at C ⊢
      rw [if_neg (by decide), if_neg (by decide)]
      exact w_callVx [(⟨0, 456, 457, 105⟩ : ExceptionTableEntry), (⟨0, 456, 462, 108⟩ : ExceptionTableEntry)] (⟨0, 456, 467, 111⟩ : ExceptionTableEntry) [] rfl (fun z hz => by
      simp only [List.mem_cons, List.not_mem_nil, or_false] at hz
      rcases hz with rfl | rfl
      · exact ⟨by decide, _, kx_L_105, by decide +kernel⟩
      · exact ⟨by decide, _, kx_L_108, by decide +kernel⟩) rfl (by decide) kx_L_111 (by decide +kernel) dL_act_416 kc_L_93 rfl rfl ho (by decide) (Nat.le_of_ble_eq_true rfl) C (fun q => jh_2)
theorem jl_24 {h0 h : k_H} {a : Nat} {x1 x2 x3 x4 x5 x6 x7 : Int32} {h' : k_H} {r : k_R} (J : jwA G l h0 h 416 (lvA a x1 x2 x3 x4 x5 x6 x7) [vI x3, vI x2, vR (some a)] h' r) : jwA G l h0 h 413 (lvA a x1 x2 x3 x4 x5 x6 x7) [] h' r := w_aload_n dL_act_413 rfl rfl (w_iload_n dL_act_414 rfl rfl (w_iload_n dL_act_415 rfl rfl J))
theorem t_act_24 (hfl : l.flags = flags0) {h : k_H} {a : Nat} {x2 x3 x4 x5 x6 x7 : Int32} {R : s_M × Nat × Int32} {X : Nat → String} {P : k_H → Prop} (ho : k_is h a 14) (hX : R.2.1 = 0 ∨ X R.2.1 = x_IO ∨ X R.2.1 = x_IA ∨ X R.2.1 = x_IS) (C : k_ct (tX11_directory G l) [vR (some a), vI x2, vI x3] h (fun H' r => P H' ∧ r = lp_r R X)) : k_cti (tL_act G l) [vR (some a), vI 24, vI x2, vI x3, vI x4, vI x5, vI x6, vI x7] h (fun H' v => P H' ∧ v = lp_code R X) := by
  obtain ⟨h1, J, p⟩ := jc_24 (h0 := h) (x1 := 24) ho hX C
  exact ⟨h1, _, k_CwOf (by decide +kernel) (Nat.le_of_ble_eq_true rfl) (jt_0 (by decide) (jt_1 (by decide) (jt_2 (by decide) (jt_3 (by decide) (jt_4 (by decide) (jt_5 (by decide) (jt_6 (by decide) (jt_7 (by decide) (jt_8 (by decide) (jt_9 (by decide) (jt_10 (by decide) (jt_11 (by decide) (jt_12 (by decide) (jt_13 (by decide) (jt_14 (by decide) (jt_15 (by decide) (jt_16 (by decide) (jt_17 (by decide) (jt_18 (by decide) (jt_19 (by decide) (jt_20 (by decide) (jt_21 (by decide) (jt_22 (by decide) (jt_23 (by decide) (jb_24 rfl (jl_24 J)))))))))))))))))))))))))) hfl, p, rfl⟩
theorem jc_25 {h0 h : k_H} {a : Nat} {x1 x2 x3 x4 x5 x6 x7 : Int32} {R : s_M × Nat × Int32} {X : Nat → String} {P : k_H → Prop} (ho : k_is h a 14) (hX : R.2.1 = 0 ∨ X R.2.1 = x_IO ∨ X R.2.1 = x_IA ∨ X R.2.1 = x_IS) (C : k_ct (tX11_remove G l) [vR (some a), vI x2] h (fun H' r => P H' ∧ r = lp_r R X)) : ∃ h', jwA G l h0 h 430 (lvA a x1 x2 x3 x4 x5 x6 x7) [vI x2, vR (some a)] h' (.inl (some (vI (lp_code R X)))) ∧ P h' := by
  obtain ⟨h1, r, C, p, rfl⟩ := C
  refine ⟨h1, ?_, p⟩
  unfold lp_r at C
  unfold lp_code
  by_cases e0 : R.2.1 = 0
  · rw [if_pos e0] at C
    rw [if_pos e0]
    exact w_callV dL_act_430 kc_L_96 rfl rfl ho (by decide) (Nat.le_of_ble_eq_true rfl) C (w_goto (tgt := 456) dL_act_433 (by decide) (w_iret dL_act_456 rfl))
  · rw [if_neg e0] at C
    rw [if_neg e0]
    rcases hX with hX | hX | hX | hX
    · exact absurd hX e0
    · rw [hX] at C ⊢
      rw [if_pos rfl]
      exact w_callVx [] (⟨0, 456, 457, 105⟩ : ExceptionTableEntry) [(⟨0, 456, 462, 108⟩ : ExceptionTableEntry), (⟨0, 456, 467, 111⟩ : ExceptionTableEntry)] rfl (fun z hz => by cases hz) rfl (by decide) kx_L_105 (by decide +kernel) dL_act_430 kc_L_96 rfl rfl ho (by decide) (Nat.le_of_ble_eq_true rfl) C (fun q => jh_0)
    · rw [hX] at C ⊢
      rw [if_neg (by decide), if_pos rfl]
      exact w_callVx [(⟨0, 456, 457, 105⟩ : ExceptionTableEntry)] (⟨0, 456, 462, 108⟩ : ExceptionTableEntry) [(⟨0, 456, 467, 111⟩ : ExceptionTableEntry)] rfl (fun z hz => by
      simp only [List.mem_cons, List.not_mem_nil, or_false] at hz
      rcases hz with rfl
      · exact ⟨by decide, _, kx_L_105, by decide +kernel⟩) rfl (by decide) kx_L_108 (by decide +kernel) dL_act_430 kc_L_96 rfl rfl ho (by decide) (Nat.le_of_ble_eq_true rfl) C (fun q => jh_1)
    · rw [hX] at C ⊢
      rw [if_neg (by decide), if_neg (by decide)]
      exact w_callVx [(⟨0, 456, 457, 105⟩ : ExceptionTableEntry), (⟨0, 456, 462, 108⟩ : ExceptionTableEntry)] (⟨0, 456, 467, 111⟩ : ExceptionTableEntry) [] rfl (fun z hz => by
      simp only [List.mem_cons, List.not_mem_nil, or_false] at hz
      rcases hz with rfl | rfl
      · exact ⟨by decide, _, kx_L_105, by decide +kernel⟩
      · exact ⟨by decide, _, kx_L_108, by decide +kernel⟩) rfl (by decide) kx_L_111 (by decide +kernel) dL_act_430 kc_L_96 rfl rfl ho (by decide) (Nat.le_of_ble_eq_true rfl) C (fun q => jh_2)
theorem jl_25 {h0 h : k_H} {a : Nat} {x1 x2 x3 x4 x5 x6 x7 : Int32} {h' : k_H} {r : k_R} (J : jwA G l h0 h 430 (lvA a x1 x2 x3 x4 x5 x6 x7) [vI x2, vR (some a)] h' r) : jwA G l h0 h 428 (lvA a x1 x2 x3 x4 x5 x6 x7) [] h' r := w_aload_n dL_act_428 rfl rfl (w_iload_n dL_act_429 rfl rfl J)
theorem t_act_25 (hfl : l.flags = flags0) {h : k_H} {a : Nat} {x2 x3 x4 x5 x6 x7 : Int32} {R : s_M × Nat × Int32} {X : Nat → String} {P : k_H → Prop} (ho : k_is h a 14) (hX : R.2.1 = 0 ∨ X R.2.1 = x_IO ∨ X R.2.1 = x_IA ∨ X R.2.1 = x_IS) (C : k_ct (tX11_remove G l) [vR (some a), vI x2] h (fun H' r => P H' ∧ r = lp_r R X)) : k_cti (tL_act G l) [vR (some a), vI 25, vI x2, vI x3, vI x4, vI x5, vI x6, vI x7] h (fun H' v => P H' ∧ v = lp_code R X) := by
  obtain ⟨h1, J, p⟩ := jc_25 (h0 := h) (x1 := 25) ho hX C
  exact ⟨h1, _, k_CwOf (by decide +kernel) (Nat.le_of_ble_eq_true rfl) (jt_0 (by decide) (jt_1 (by decide) (jt_2 (by decide) (jt_3 (by decide) (jt_4 (by decide) (jt_5 (by decide) (jt_6 (by decide) (jt_7 (by decide) (jt_8 (by decide) (jt_9 (by decide) (jt_10 (by decide) (jt_11 (by decide) (jt_12 (by decide) (jt_13 (by decide) (jt_14 (by decide) (jt_15 (by decide) (jt_16 (by decide) (jt_17 (by decide) (jt_18 (by decide) (jt_19 (by decide) (jt_20 (by decide) (jt_21 (by decide) (jt_22 (by decide) (jt_23 (by decide) (jt_24 (by decide) (jb_25 rfl (jl_25 J))))))))))))))))))))))))))) hfl, p, rfl⟩
theorem jc_26 {h0 h : k_H} {a : Nat} {x1 x2 x3 x4 x5 x6 x7 : Int32} {R : s_M × Nat × Int32} {X : Nat → String} {P : k_H → Prop} (ho : k_is h a 14) (hX : R.2.1 = 0 ∨ X R.2.1 = x_IO ∨ X R.2.1 = x_IA ∨ X R.2.1 = x_IS) (C : k_ct (tX11_shortName G l) [vR (some a), vI x2] h (fun H' r => P H' ∧ r = lp_r R X)) : ∃ h', jwA G l h0 h 444 (lvA a x1 x2 x3 x4 x5 x6 x7) [vI x2, vR (some a)] h' (.inl (some (vI (lp_code R X)))) ∧ P h' := by
  obtain ⟨h1, r, C, p, rfl⟩ := C
  refine ⟨h1, ?_, p⟩
  unfold lp_r at C
  unfold lp_code
  by_cases e0 : R.2.1 = 0
  · rw [if_pos e0] at C
    rw [if_pos e0]
    exact w_callV dL_act_444 kc_L_99 rfl rfl ho (by decide) (Nat.le_of_ble_eq_true rfl) C (w_goto (tgt := 456) dL_act_447 (by decide) (w_iret dL_act_456 rfl))
  · rw [if_neg e0] at C
    rw [if_neg e0]
    rcases hX with hX | hX | hX | hX
    · exact absurd hX e0
    · rw [hX] at C ⊢
      rw [if_pos rfl]
      exact w_callVx [] (⟨0, 456, 457, 105⟩ : ExceptionTableEntry) [(⟨0, 456, 462, 108⟩ : ExceptionTableEntry), (⟨0, 456, 467, 111⟩ : ExceptionTableEntry)] rfl (fun z hz => by cases hz) rfl (by decide) kx_L_105 (by decide +kernel) dL_act_444 kc_L_99 rfl rfl ho (by decide) (Nat.le_of_ble_eq_true rfl) C (fun q => jh_0)
    · rw [hX] at C ⊢
      rw [if_neg (by decide), if_pos rfl]
      exact w_callVx [(⟨0, 456, 457, 105⟩ : ExceptionTableEntry)] (⟨0, 456, 462, 108⟩ : ExceptionTableEntry) [(⟨0, 456, 467, 111⟩ : ExceptionTableEntry)] rfl (fun z hz => by
      simp only [List.mem_cons, List.not_mem_nil, or_false] at hz
      rcases hz with rfl
      · exact ⟨by decide, _, kx_L_105, by decide +kernel⟩) rfl (by decide) kx_L_108 (by decide +kernel) dL_act_444 kc_L_99 rfl rfl ho (by decide) (Nat.le_of_ble_eq_true rfl) C (fun q => jh_1)
    · rw [hX] at C ⊢
      rw [if_neg (by decide), if_neg (by decide)]
      exact w_callVx [(⟨0, 456, 457, 105⟩ : ExceptionTableEntry), (⟨0, 456, 462, 108⟩ : ExceptionTableEntry)] (⟨0, 456, 467, 111⟩ : ExceptionTableEntry) [] rfl (fun z hz => by
      simp only [List.mem_cons, List.not_mem_nil, or_false] at hz
      rcases hz with rfl | rfl
      · exact ⟨by decide, _, kx_L_105, by decide +kernel⟩
      · exact ⟨by decide, _, kx_L_108, by decide +kernel⟩) rfl (by decide) kx_L_111 (by decide +kernel) dL_act_444 kc_L_99 rfl rfl ho (by decide) (Nat.le_of_ble_eq_true rfl) C (fun q => jh_2)
theorem jl_26 {h0 h : k_H} {a : Nat} {x1 x2 x3 x4 x5 x6 x7 : Int32} {h' : k_H} {r : k_R} (J : jwA G l h0 h 444 (lvA a x1 x2 x3 x4 x5 x6 x7) [vI x2, vR (some a)] h' r) : jwA G l h0 h 442 (lvA a x1 x2 x3 x4 x5 x6 x7) [] h' r := w_aload_n dL_act_442 rfl rfl (w_iload_n dL_act_443 rfl rfl J)
theorem t_act_26 (hfl : l.flags = flags0) {h : k_H} {a : Nat} {x2 x3 x4 x5 x6 x7 : Int32} {R : s_M × Nat × Int32} {X : Nat → String} {P : k_H → Prop} (ho : k_is h a 14) (hX : R.2.1 = 0 ∨ X R.2.1 = x_IO ∨ X R.2.1 = x_IA ∨ X R.2.1 = x_IS) (C : k_ct (tX11_shortName G l) [vR (some a), vI x2] h (fun H' r => P H' ∧ r = lp_r R X)) : k_cti (tL_act G l) [vR (some a), vI 26, vI x2, vI x3, vI x4, vI x5, vI x6, vI x7] h (fun H' v => P H' ∧ v = lp_code R X) := by
  obtain ⟨h1, J, p⟩ := jc_26 (h0 := h) (x1 := 26) ho hX C
  exact ⟨h1, _, k_CwOf (by decide +kernel) (Nat.le_of_ble_eq_true rfl) (jt_0 (by decide) (jt_1 (by decide) (jt_2 (by decide) (jt_3 (by decide) (jt_4 (by decide) (jt_5 (by decide) (jt_6 (by decide) (jt_7 (by decide) (jt_8 (by decide) (jt_9 (by decide) (jt_10 (by decide) (jt_11 (by decide) (jt_12 (by decide) (jt_13 (by decide) (jt_14 (by decide) (jt_15 (by decide) (jt_16 (by decide) (jt_17 (by decide) (jt_18 (by decide) (jt_19 (by decide) (jt_20 (by decide) (jt_21 (by decide) (jt_22 (by decide) (jt_23 (by decide) (jt_24 (by decide) (jt_25 (by decide) (jb_26 rfl (jl_26 J)))))))))))))))))))))))))))) hfl, p, rfl⟩
theorem jc_27 {h0 h : k_H} {a : Nat} {x1 x2 x3 x4 x5 x6 x7 : Int32} {R : s_M × Nat × Int32} {X : Nat → String} {P : k_H → Prop} (ho : k_is h a 14) (hX : R.2.1 = 0 ∨ X R.2.1 = x_IO ∨ X R.2.1 = x_IA ∨ X R.2.1 = x_IS) (C : k_ct (tX11_named G l) [vR (some a), vI x2, vI x3] h (fun H' r => P H' ∧ r = lp_r R X)) : ∃ h', jwA G l h0 h 453 (lvA a x1 x2 x3 x4 x5 x6 x7) [vI x3, vI x2, vR (some a)] h' (.inl (some (vI (lp_code R X)))) ∧ P h' := by
  obtain ⟨h1, r, C, p, rfl⟩ := C
  refine ⟨h1, ?_, p⟩
  unfold lp_r at C
  unfold lp_code
  by_cases e0 : R.2.1 = 0
  · rw [if_pos e0] at C
    rw [if_pos e0]
    exact w_callV dL_act_453 kc_L_102 rfl rfl ho (by decide) (Nat.le_of_ble_eq_true rfl) C (w_iret dL_act_456 rfl)
  · rw [if_neg e0] at C
    rw [if_neg e0]
    rcases hX with hX | hX | hX | hX
    · exact absurd hX e0
    · rw [hX] at C ⊢
      rw [if_pos rfl]
      exact w_callVx [] (⟨0, 456, 457, 105⟩ : ExceptionTableEntry) [(⟨0, 456, 462, 108⟩ : ExceptionTableEntry), (⟨0, 456, 467, 111⟩ : ExceptionTableEntry)] rfl (fun z hz => by cases hz) rfl (by decide) kx_L_105 (by decide +kernel) dL_act_453 kc_L_102 rfl rfl ho (by decide) (Nat.le_of_ble_eq_true rfl) C (fun q => jh_0)
    · rw [hX] at C ⊢
      rw [if_neg (by decide), if_pos rfl]
      exact w_callVx [(⟨0, 456, 457, 105⟩ : ExceptionTableEntry)] (⟨0, 456, 462, 108⟩ : ExceptionTableEntry) [(⟨0, 456, 467, 111⟩ : ExceptionTableEntry)] rfl (fun z hz => by
      simp only [List.mem_cons, List.not_mem_nil, or_false] at hz
      rcases hz with rfl
      · exact ⟨by decide, _, kx_L_105, by decide +kernel⟩) rfl (by decide) kx_L_108 (by decide +kernel) dL_act_453 kc_L_102 rfl rfl ho (by decide) (Nat.le_of_ble_eq_true rfl) C (fun q => jh_1)
    · rw [hX] at C ⊢
      rw [if_neg (by decide), if_neg (by decide)]
      exact w_callVx [(⟨0, 456, 457, 105⟩ : ExceptionTableEntry), (⟨0, 456, 462, 108⟩ : ExceptionTableEntry)] (⟨0, 456, 467, 111⟩ : ExceptionTableEntry) [] rfl (fun z hz => by
      simp only [List.mem_cons, List.not_mem_nil, or_false] at hz
      rcases hz with rfl | rfl
      · exact ⟨by decide, _, kx_L_105, by decide +kernel⟩
      · exact ⟨by decide, _, kx_L_108, by decide +kernel⟩) rfl (by decide) kx_L_111 (by decide +kernel) dL_act_453 kc_L_102 rfl rfl ho (by decide) (Nat.le_of_ble_eq_true rfl) C (fun q => jh_2)
theorem jl_27 {h0 h : k_H} {a : Nat} {x1 x2 x3 x4 x5 x6 x7 : Int32} {h' : k_H} {r : k_R} (J : jwA G l h0 h 453 (lvA a x1 x2 x3 x4 x5 x6 x7) [vI x3, vI x2, vR (some a)] h' r) : jwA G l h0 h 450 (lvA a x1 x2 x3 x4 x5 x6 x7) [] h' r := w_aload_n dL_act_450 rfl rfl (w_iload_n dL_act_451 rfl rfl (w_iload_n dL_act_452 rfl rfl J))
theorem t_act_27 (hfl : l.flags = flags0) {h : k_H} {a : Nat} {x2 x3 x4 x5 x6 x7 : Int32} {R : s_M × Nat × Int32} {X : Nat → String} {P : k_H → Prop} (ho : k_is h a 14) (hX : R.2.1 = 0 ∨ X R.2.1 = x_IO ∨ X R.2.1 = x_IA ∨ X R.2.1 = x_IS) (C : k_ct (tX11_named G l) [vR (some a), vI x2, vI x3] h (fun H' r => P H' ∧ r = lp_r R X)) : k_cti (tL_act G l) [vR (some a), vI 27, vI x2, vI x3, vI x4, vI x5, vI x6, vI x7] h (fun H' v => P H' ∧ v = lp_code R X) := by
  obtain ⟨h1, J, p⟩ := jc_27 (h0 := h) (x1 := 27) ho hX C
  exact ⟨h1, _, k_CwOf (by decide +kernel) (Nat.le_of_ble_eq_true rfl) (jt_0 (by decide) (jt_1 (by decide) (jt_2 (by decide) (jt_3 (by decide) (jt_4 (by decide) (jt_5 (by decide) (jt_6 (by decide) (jt_7 (by decide) (jt_8 (by decide) (jt_9 (by decide) (jt_10 (by decide) (jt_11 (by decide) (jt_12 (by decide) (jt_13 (by decide) (jt_14 (by decide) (jt_15 (by decide) (jt_16 (by decide) (jt_17 (by decide) (jt_18 (by decide) (jt_19 (by decide) (jt_20 (by decide) (jt_21 (by decide) (jt_22 (by decide) (jt_23 (by decide) (jt_24 (by decide) (jt_25 (by decide) (jt_26 (by decide) (jl_27 J)))))))))))))))))))))))))))) hfl, p, rfl⟩
abbrev jwS (G : k_G) (l : Launch) (h0 : k_H) : k_B := k_Jw G l yL_silent cL_silent 5 (some .int) 30 [(0, 15, 16, 105), (0, 15, 21, 108), (0, 15, 26, 111)] h0
theorem js_0 {h0 h : k_H} {a : Nat} {x y z : Int32} {q : Nat} : jwS G l h0 h 16 [(0, vR (some a)), (1, vI x), (2, vI y), (3, vI z)] [vR (some q)] h (.inl (some (vI (-2000000001)))) :=
  w_astore (lv9 := k_st1 [(0, vR (some a)), (1, vI x), (2, vI y), (3, vI z)] 4 (vR (some q))) dL_silent_16 (by decide) rfl (w_ldc (v := (-2000000001)) dL_silent_18 ki_L_107 (w_iret dL_silent_20 rfl))
theorem js_1 {h0 h : k_H} {a : Nat} {x y z : Int32} {q : Nat} : jwS G l h0 h 21 [(0, vR (some a)), (1, vI x), (2, vI y), (3, vI z)] [vR (some q)] h (.inl (some (vI (-2000000002)))) :=
  w_astore (lv9 := k_st1 [(0, vR (some a)), (1, vI x), (2, vI y), (3, vI z)] 4 (vR (some q))) dL_silent_21 (by decide) rfl (w_ldc (v := (-2000000002)) dL_silent_23 ki_L_110 (w_iret dL_silent_25 rfl))
theorem js_2 {h0 h : k_H} {a : Nat} {x y z : Int32} {q : Nat} : jwS G l h0 h 26 [(0, vR (some a)), (1, vI x), (2, vI y), (3, vI z)] [vR (some q)] h (.inl (some (vI (-2000000003)))) :=
  w_astore (lv9 := k_st1 [(0, vR (some a)), (1, vI x), (2, vI y), (3, vI z)] 4 (vR (some q))) dL_silent_26 (by decide) rfl (w_ldc (v := (-2000000003)) dL_silent_28 ki_L_113 (w_iret dL_silent_30 rfl))
/-- what silent answers -/
def lp_codeS (R : s_M × Nat × Int32) (X : Nat → String) : Int32 := if R.2.1 = 0 then 0 else if X R.2.1 = x_IO then -2000000001 else if X R.2.1 = x_IA then -2000000002 else -2000000003
theorem t_silent (hfl : l.flags = flags0) {h : k_H} {a : Nat} {x y z : Int32} {R : s_M × Nat × Int32} {X : Nat → String} {P : k_H → Prop} (hX : R.2.1 = 0 ∨ X R.2.1 = x_IO ∨ X R.2.1 = x_IA ∨ X R.2.1 = x_IS) (C : k_ct (tL_tells G l) [vR (some a), vI x, vI y, vI z] h (fun H' r => P H' ∧ r = if R.2.1 = 0 then .inl (some (vI 1)) else .inr (X R.2.1))) :
    k_cti (tL_silent G l) [vR (some a), vI x, vI y, vI z] h (fun H' v => P H' ∧ v = lp_codeS R X) := by
  obtain ⟨h1, r, C, p, rfl⟩ := C
  have go : jwS G l h h 0 [(0, vR (some a)), (1, vI x), (2, vI y), (3, vI z)] [] h1 (.inl (some (vI (lp_codeS R X)))) := by
    unfold lp_codeS
    by_cases e0 : R.2.1 = 0
    · rw [if_pos e0] at C
      rw [if_pos e0]
      exact w_aload_n dL_silent_0 rfl rfl (w_iload_n dL_silent_1 rfl rfl (w_iload_n dL_silent_2 rfl rfl (w_iload_n dL_silent_3 rfl rfl (w_callS dL_silent_4 kc_L_118 rfl rfl (by decide) (Nat.le_of_ble_eq_true rfl) C (w_if_eq_f dL_silent_7 14 (by decide) (by decide) (w_iconst (v := 0) dL_silent_10 (by decide) (w_goto (tgt := 15) dL_silent_11 (by decide) (w_iret dL_silent_15 rfl))))))))
    · rw [if_neg e0] at C
      rw [if_neg e0]
      rcases hX with hX | hX | hX | hX
      · exact absurd hX e0
      · rw [hX] at C ⊢
        rw [if_pos rfl]
        exact w_aload_n dL_silent_0 rfl rfl (w_iload_n dL_silent_1 rfl rfl (w_iload_n dL_silent_2 rfl rfl (w_iload_n dL_silent_3 rfl rfl (w_callSx [] (⟨0, 15, 16, 105⟩ : ExceptionTableEntry) [(⟨0, 15, 21, 108⟩ : ExceptionTableEntry), (⟨0, 15, 26, 111⟩ : ExceptionTableEntry)] rfl (fun z hz => by cases hz) rfl (by decide) kx_L_105 (by decide +kernel) dL_silent_4 kc_L_118 rfl rfl (by decide) (Nat.le_of_ble_eq_true rfl) C (fun q => js_0)))))
      · rw [hX] at C ⊢
        rw [if_neg (by decide), if_pos rfl]
        exact w_aload_n dL_silent_0 rfl rfl (w_iload_n dL_silent_1 rfl rfl (w_iload_n dL_silent_2 rfl rfl (w_iload_n dL_silent_3 rfl rfl (w_callSx [(⟨0, 15, 16, 105⟩ : ExceptionTableEntry)] (⟨0, 15, 21, 108⟩ : ExceptionTableEntry) [(⟨0, 15, 26, 111⟩ : ExceptionTableEntry)] rfl (fun z hz => by
      simp only [List.mem_cons, List.not_mem_nil, or_false] at hz
      rcases hz with rfl
      · exact ⟨by decide, _, kx_L_105, by decide +kernel⟩) rfl (by decide) kx_L_108 (by decide +kernel) dL_silent_4 kc_L_118 rfl rfl (by decide) (Nat.le_of_ble_eq_true rfl) C (fun q => js_1)))))
      · rw [hX] at C ⊢
        rw [if_neg (by decide), if_neg (by decide)]
        exact w_aload_n dL_silent_0 rfl rfl (w_iload_n dL_silent_1 rfl rfl (w_iload_n dL_silent_2 rfl rfl (w_iload_n dL_silent_3 rfl rfl (w_callSx [(⟨0, 15, 16, 105⟩ : ExceptionTableEntry), (⟨0, 15, 21, 108⟩ : ExceptionTableEntry)] (⟨0, 15, 26, 111⟩ : ExceptionTableEntry) [] rfl (fun z hz => by
      simp only [List.mem_cons, List.not_mem_nil, or_false] at hz
      rcases hz with rfl | rfl
      · exact ⟨by decide, _, kx_L_105, by decide +kernel⟩
      · exact ⟨by decide, _, kx_L_108, by decide +kernel⟩) rfl (by decide) kx_L_111 (by decide +kernel) dL_silent_4 kc_L_118 rfl rfl (by decide) (Nat.le_of_ble_eq_true rfl) C (fun q => js_2)))))
  exact ⟨h1, _, k_CwOf (by decide +kernel) (Nat.le_of_ble_eq_true rfl) go hfl, p, rfl⟩
end ACT
