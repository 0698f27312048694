section KR2
variable {G : k_G} {l : Launch} {y : MethodName} {cc : ByteArray} {mL : Nat} {rt : Option FieldType} {d : Nat} {h0 h h' : k_H} {pc : Nat} {lv : k_L} {st : List k_V} {r : k_R}
abbrev k_gcN : MethodName := ⟨"java/lang/Object", "getClass", "()Ljava/lang/Class;"⟩
theorem k_qrecv {G : k_G} {s : State} {h : k_H} {H : Heap} {a n : Nat} {f : Nat → Option Nat} (hE : k_E G s) (hp : k_hp G h H) (ho : h.1 a = some (k_q n f)) : ∃ cell : Cell, H[a]? = some cell ∧ cell.vm.isStatics = false ∧ s.vm.findClass k_OA = some cell.cls := by
  refine ⟨vp_cell (k_cQ G) (n, .inr (.inr (.inr (.inr f)))), k_hp_q hp ho, rfl, ?_⟩
  obtain ⟨-, -, -, -, -, h9⟩ := (hE.K.2 3 _ rfl).2
  exact h9
theorem j_getC {idx a n0 : Nat} {f : Nat → Option Nat} (hdg : decode cc pc = .ok (.invokevirtual idx, 3)) (hw : Cond.methodLink y.cls idx k_gcN ∈ k_tbl) (hw2 : Cond.selects k_OA k_gcN k_gcN ∈ k_tbl) (hw3 : Cond.instanceMethod k_gcN ∈ k_tbl) (hw4 : Cond.native k_gcN ∈ k_tbl) (ho : h.1 a = some (k_q n0 f)) (hd : 1 ≤ d) (hst : (st.map k_cat).sum ≤ 8) (K : k_J G l y cc mL rt d h0 h (pc + 3) lv (vR (some (k_mi G)) :: st) h' r) : k_J G l y cc mL rt d h0 h pc lv (vR (some a) :: st) h' r :=
  ⟨K.1, K.2.1, fun p e s m args below meth c C ht H locs k n ls hp hl hk hn hv => by
    have hts := C.2.2.2.2.2.1
    have hE := C.2.2.2.2.2.2.2.2.1
    exact va_getC C.1 C.2.1 (by rw [hv.1, C.2.2.2.1]) C.2.2.2.2.1 (hts _ hw) (va_Dc.use hE.2.2.2.2.2.2.2.2.2.2.2.1) (hts _ hw2) (hts _ hw3) (hts _ hw4) hE.2.2.2.2.2.2.2.2.2.2.2.2.1 (k_qrecv hE hp ho) hd (by rw [k_catR]; show _ ≤ 40 * d; omega) hdg (K.2.2 p e s m args below meth c C ht H locs k n ls hp hl hk hn hv)⟩
theorem j_copy {idx a b n0 n1 : Nat} {f g : Nat → Option Nat} {sp dp n9 : Int32} (hdg : decode cc pc = .ok (.invokestatic idx, 3)) (hw : Cond.methodLink y.cls idx arraycopyName ∈ k_tbl) (hw2 : Cond.native arraycopyName ∈ k_tbl) (hw3 : Cond.static arraycopyName ∈ k_tbl) (hw4 : Cond.initialized "java/lang/System" ∈ k_tbl) (ho : h.1 a = some (k_q n0 f)) (ho2 : h.1 b = some (k_q n1 g))
    (h1 : ¬ sp < 0) (h2 : ¬ dp < 0) (h3 : ¬ n9 < 0) (h4 : sp.toNatClampNeg + n9.toNatClampNeg ≤ n0) (h5 : dp.toNatClampNeg + n9.toNatClampNeg ≤ n1) (hel : ∀ i : Nat, i < n9.toNatClampNeg → ∀ z : Nat, f (sp.toNatClampNeg + i) = some z → ∃ ci, k_is h z ci ∧ k_toObj ci) (hd : 10 ≤ d) (hst : (st.map k_cat).sum ≤ 8)
    (K : k_J G l y cc mL rt d h0 (k_up h b (k_q n1 (va_cpy f g sp.toNatClampNeg dp.toNatClampNeg n9.toNatClampNeg))) (pc + 3) lv st h' r) : k_J G l y cc mL rt d h0 h pc lv (vI n9 :: vI dp :: vR (some b) :: vI sp :: vR (some a) :: st) h' r := by
  refine ⟨K.1, K.2.1, fun p e s m args below meth c C ht H locs k n ls hp hl hk hn hv => ?_⟩
  have hts := C.2.2.2.2.2.1
  have hE := C.2.2.2.2.2.2.2.2.1
  have hKs := hE.K
  have nn : ∀ z : Int32, ¬ z < 0 → z.toInt = (z.toNatClampNeg : Int) := by
    intro z hz
    have hz0 : (0 : Int) ≤ z.toInt := by
      have := Int32.not_lt.mp hz
      simpa using Int32.le_iff_toInt_le.mp this
    show z.toInt = ((z.toInt.toNat : Nat) : Int)
    omega
  intro T hT X
  have hc0 : H[a]? = some (vp_cell (k_cQ G) (n0, .inr (.inr (.inr (.inr f))))) := k_hp_q hp ho
  have hc1 : H[b]? = some (vp_cell (k_cQ G) (n1, .inr (.inr (.inr (.inr g))))) := k_hp_q hp ho2
  obtain ⟨-, k0, hk0, cm0, hkk0⟩ := (hKs.2 3 _ rfl).1 n0 (fun j => va_rf (f j))
  obtain ⟨-, k1, hk1, cm1, hkk1⟩ := (hKs.2 3 _ rfl).1 n1 (fun j => va_rf (g j))
  obtain ⟨vm', X', step⟩ := X.arraycopy C.1 C.2.2.2.2.1 (hts _ hw) (hts _ hw2) (hts _ hw3) (hts _ hw4) (src := a) (dst := b) (cs := vp_cell (k_cQ G) (n0, .inr (.inr (.inr (.inr f))))) (cd := vp_cell (k_cQ G) (n1, .inr (.inr (.inr (.inr g))))) (srcPos := sp) (destPos := dp) (n := n9) (by rw [hT]; exact hc0) (by rw [hT]; exact hc1)
    (fun _ h => by cases h) (fun _ h => by cases h) (fun h => by cases h) (fun h => by cases h) hk0 hk1 hkk0 hkk1 rfl h1 h2 h3
    (by rw [nn sp h1, nn n9 h3]; show ¬ _ > ((arrV _ n0 (fun j => va_rf (f j))).slots.size : Int); rw [arrV_size]; omega)
    (by rw [nn dp h2, nn n9 h3]; show ¬ _ > ((arrV _ n1 (fun j => va_rf (g j))).slots.size : Int); rw [arrV_size]; omega)
    (fun vm₁ hal i hi => by
      have e : (vp_cell (k_cQ G) (n0, .inr (.inr (.inr (.inr f))))).slots.getD (sp.toNatClampNeg + i) .null = va_rf (f (sp.toNatClampNeg + i)) := by
        show (arrV _ n0 (fun j => va_rf (f j))).slots.getD _ _ = _
        rw [Array.getD_eq_getD_getElem?, arrV_read _ _ (by omega)]
        rfl
      rw [e]
      cases hy : f (sp.toNatClampNeg + i) with
      | none => exact ⟨rfl, trivial⟩
      | some y9 =>
        obtain ⟨ci, w1, w2⟩ := hel i hi y9 hy
        obtain ⟨cellV, g1, g2, ⟨kC, hkC⟩, hasg⟩ := k_any hE hp w1 w2
        obtain ⟨kA, comp, r1, r2, r3, -⟩ := (hKs.2 3 _ rfl).2
        cases hk1.symm.trans r1
        cases hkk1.symm.trans r2
        obtain ⟨kE, hkE, -⟩ := Vm.findClass_spec r3
        obtain ⟨kC', hkC', -⟩ := hal.2.2 _ _ hkC
        obtain ⟨kE', hkE', -⟩ := hal.2.2 _ _ hkE
        refine ⟨rfl, cellV, (show T.heap[y9]? = some cellV by rw [hT]; exact g1), (fun q h => by rw [h] at g2; cases g2), ⟨kC', hkC'⟩, ?_, ?_⟩
        · exact ⟨kE', hkE'⟩
        · show vm₁.assignable _ _ = true
          rw [hal.assignable]
          exact hasg _ r3)
    (g := F0 m pc ls (.int n9 :: .int dp :: .ref b :: .int sp :: .ref a :: st.map k_v)) rfl (by rw [C.2.2.2.1]; exact hv.1) (rest := st.map k_v) rfl (by rw [C.2.1]; exact hdg) (by show 1 ≤ d; omega) (by show 2 * 0 + ((st.map k_v).map fun v => v.category).sum + (nativeFrameWords "java/lang/System" "arraycopy" 5 + 11) ≤ 40 * d; rw [k_catR]; have hw : nativeFrameWords "java/lang/System" "arraycopy" 5 ≤ 50 := (by decide); omega)
  have e1 : copied (vp_cell (k_cQ G) (n0, .inr (.inr (.inr (.inr f))))) (vp_cell (k_cQ G) (n1, .inr (.inr (.inr (.inr g))))) sp dp n9 = vp_cell (k_cQ G) (n1, .inr (.inr (.inr (.inr (va_cpy f g sp.toNatClampNeg dp.toNatClampNeg n9.toNatClampNeg))))) := by
    rw [vp_cell_q, vp_cell_q, vp_cell_q]
    exact va_copied (fun z => va_rf z) _ _ f g h4
  rw [e1] at X' step
  have hl9 : b < H.size := (Array.getElem?_eq_some_iff.mp hc1).1
  have hheap : ((T.setVm vm').setCell b (vp_cell (k_cQ G) (n1, .inr (.inr (.inr (.inr (va_cpy f g sp.toNatClampNeg dp.toNatClampNeg n9.toNatClampNeg))))))).heap = H.setIfInBounds b (vp_cell (k_cQ G) (n1, .inr (.inr (.inr (.inr (va_cpy f g sp.toNatClampNeg dp.toNatClampNeg n9.toNatClampNeg)))))) := by rw [← hT]; rfl
  have oq : ∀ q : Nat, q ≠ b → (H.setIfInBounds b (vp_cell (k_cQ G) (n1, .inr (.inr (.inr (.inr (va_cpy f g sp.toNatClampNeg dp.toNatClampNeg n9.toNatClampNeg)))))))[q]? = H[q]? := fun q hq => by simp [Array.getElem?_setIfInBounds, Ne.symm hq]
  have fin := k_hp_set hp ho2 (c := k_q n1 (va_cpy f g sp.toNatClampNeg dp.toNatClampNeg n9.toNatClampNeg)) (fun _ _ h => by cases h) (show (H.setIfInBounds b (vp_cell (k_cQ G) (n1, .inr (.inr (.inr (.inr (va_cpy f g sp.toNatClampNeg dp.toNatClampNeg n9.toNatClampNeg))))))).size = H.size by simp) oq (e := .inl (k_cQ G, n1, .inr (.inr (.inr (.inr (va_cpy f g sp.toNatClampNeg dp.toNatClampNeg n9.toNatClampNeg)))))) (show (H.setIfInBounds b _)[b]? = some _ by simp [Array.getElem?_setIfInBounds, hl9]) (fun _ _ _ h => h)
  obtain ⟨t, a1, b1⟩ := K.2.2 p e s m args below meth c C ht _ _ k n ls fin (fun q hq => by
      rcases List.mem_append.mp hq with z | z
      · exact hl q z
      · obtain ⟨z9, -, hz⟩ := List.mem_map.mp z
        rw [← hz]
        exact k_hp_gq hp ho2) hk hn hv _ hheap X'
  exact ⟨t, step t a1, b1⟩
/-- the world may be seen otherwise -/
theorem k_Jopen (R : k_H → Prop) (hle : h.2.1 ≤ h'.2.1 ∧ h.2.2 ≤ h'.2.2) (ho : ∀ H, k_hp G h H → ∃ h1, R h1 ∧ h1.2 = h.2 ∧ k_hp G h1 H) (K : ∀ h1, R h1 → h1.2 = h.2 → k_J G l y cc mL rt d h0 h1 pc lv st h' r) : k_J G l y cc mL rt d h0 h pc lv st h' r :=
  ⟨hle.1, hle.2, fun p e s m args below meth c C ht H locs k n ls hp hl hk hn hv => by
    obtain ⟨h1, r1, e1, p1⟩ := ho H hp
    exact (K h1 r1 e1).2.2 p e s m args below meth c C ht H locs k n ls p1 hl (by rw [e1]; exact hk) (by rw [e1]; exact hn) hv⟩
theorem k_Wmono {p : Program} {e : Env} {R : Room} {s : State} {m : MethodId} {args : Array Value} {below : List Frame} {meth : Method} {c : Code} {H : Heap} {locs : List Loc} {k n : Nat} {Q Q' : State → Prop} {g : JFrame} (hq : ∀ t, Q t → Q' t) (w : W p l e R s m args below meth c H locs k n Q g) : W p l e R s m args below meth c H locs k n Q' g := fun T hT X => by
  obtain ⟨t, a, b⟩ := w T hT X
  exact ⟨t, a, hq t b⟩
theorem k_Jres {h2 : k_H} (K : k_J G l y cc mL rt d h0 h pc lv st h2 r) (he : h2.2 = h'.2) (hc : ∀ H, k_hp G h2 H → k_hp G h' H) : k_J G l y cc mL rt d h0 h pc lv st h' r := by
  obtain ⟨k1, k2, k3⟩ := K
  have erm : k_rm d h0 h' = k_rm d h0 h2 := by unfold k_rm; rw [he]
  refine ⟨by rw [← he]; exact k1, by rw [← he]; exact k2, fun p e s m args below meth c C ht H locs k n ls hp hl hk hn hv => ?_⟩
  rw [erm, ← he]
  refine k_Wmono (fun t ht9 => ?_) (k3 p e s m args below meth c C ht H locs k n ls hp hl hk hn hv)
  obtain ⟨o, b1, b2, b3⟩ := ht9
  refine ⟨o, b1, b2, ?_⟩
  rcases b3 with ⟨⟨v, e1, e2, e3⟩, b4⟩ | ⟨q, e1, E, ce, L, ⟨e2, e3⟩, b4⟩
  · exact Or.inl ⟨⟨v, e1, e2, hc _ e3⟩, b4⟩
  · exact Or.inr ⟨q, e1, E, ce, L, ⟨e2, hc _ e3⟩, b4⟩
/-- fewer cells are a world, too -/
theorem k_drop {h2 : k_H} {H : Heap} (hp : k_hp G h H) (he : h2.2 = h.2) (hs : ∀ q c, h2.1 q = some c → h.1 q = some c) : k_hp G h2 H := by
  obtain ⟨p1, p2, p3, F, ow, h1, h3⟩ := hp
  refine ⟨by rw [he]; exact p1, p2, p3, F, ow, h1, fun a c hc => ?_⟩
  have := h3 _ _ (hs _ _ hc)
  rcases c with ⟨ci, fs⟩ | ⟨n, f⟩ | ⟨n, f⟩ | ⟨n, f⟩ | ⟨xs, cap⟩ | ⟨n, f⟩
  rotate_right
  · exact this
  · exact this
  · exact this
  · exact this
  · exact this
  · obtain ⟨md, t, g1, g2, g3, g4⟩ := this
    refine ⟨md, t, g1, g2, g3, ?_⟩
    rcases g4 with ⟨g5, g6⟩ | ⟨g5, g6, g7⟩
    · exact Or.inl ⟨g5, g6⟩
    · refine Or.inr ⟨g5, ?_, g7⟩
      cases hz : h2.1 t with
      | none => rfl
      | some c => rw [hs _ _ hz] at g6; cases g6
end KR2
/-- a list seen raw: its object and its row -/
def k_raw (h : k_H) (a : Nat) (xs : List Nat) (cap : Nat) (z0 : Nat) (h1 : k_H) : Prop := ∃ (md : Int32) (t : Nat), h1.1 a = some (k_o 2 [vI md, vR (some t), vI (nI xs.length)]) ∧ xs.length ≤ cap ∧ cap < 2 ^ 30 ∧ t ≠ a ∧
  ((cap = 0 ∧ t = z0 ∧ ∀ q, q ≠ a → h1.1 q = h.1 q) ∨ (0 < cap ∧ t ≠ z0 ∧ h.1 t = none ∧ ∃ f : Nat → Option Nat, h1.1 t = some (k_q cap f) ∧ (∀ i : Nat, i < xs.length → f i = xs[i]?) ∧ ∀ q, q ≠ a → q ≠ t → h1.1 q = h.1 q))
theorem k_open {G : k_G} {h : k_H} {H : Heap} (hz : k_z0 G < (k_H0 G).size) (hp : k_hp G h H) {a cap : Nat} {xs : List Nat} (ho : h.1 a = some (k_l xs cap)) : ∃ h1, k_raw h a xs cap (k_z0 G) h1 ∧ h1.2 = h.2 ∧ k_hp G h1 H := by
  obtain ⟨p1, p2, p3, F, ow, h1, h3⟩ := hp
  obtain ⟨md, t, g1, g2, g3, g4⟩ := h3 _ _ ho
  have ha := (h1 _ _ g1).1.1
  rcases g4 with ⟨g5, g6⟩ | ⟨g5, g6, g7, f, g8, g9⟩
  · refine ⟨k_up h a (k_o 2 [vI md, vR (some t), vI (nI xs.length)]), ⟨md, t, k_up_self _ _ _, g2, g3, by omega, Or.inl ⟨g5, g6, fun q hq => k_up_ne _ _ hq⟩⟩, rfl, p1, p2, p3, F, ow, h1, fun q c hc => ?_⟩
    by_cases hqa : q = a
    · subst hqa
      rw [k_up_self] at hc
      cases hc
      exact g1
    · rw [k_up_ne _ _ hqa] at hc
      have := h3 _ _ hc
      rcases c with ⟨ci, fs⟩ | ⟨n, f⟩ | ⟨n, f⟩ | ⟨n, f⟩ | ⟨xs, cap⟩ | ⟨n, f⟩
      rotate_right
      · exact this
      · exact this
      · exact this
      · exact this
      · exact this
      · obtain ⟨md', t', e1, e2, e3, e4⟩ := this
        refine ⟨md', t', e1, e2, e3, ?_⟩
        rcases e4 with e5 | ⟨e5, e6, e7⟩
        · exact Or.inl e5
        · exact Or.inr ⟨e5, by rw [k_up_ne _ _ (fun z => by subst z; rw [ho] at e6; cases e6)]; exact e6, e7⟩
  · have hta : t ≠ a := fun z => by subst z; rw [ho] at g6; cases g6
    have htb := (h1 _ _ g8).1.1
    refine ⟨k_up (k_up h t (k_q cap f)) a (k_o 2 [vI md, vR (some t), vI (nI xs.length)]), ⟨md, t, k_up_self _ _ _, g2, g3, hta, Or.inr ⟨g5, by omega, g6, f, by rw [k_up_ne _ _ hta, k_up_self], g9, fun q hq hq2 => by rw [k_up_ne _ _ hq, k_up_ne _ _ hq2]⟩⟩, rfl, p1, p2, p3, F, ow, h1, fun q c hc => ?_⟩
    by_cases hqa : q = a
    · subst hqa
      rw [k_up_self] at hc
      cases hc
      exact g1
    · rw [k_up_ne _ _ hqa] at hc
      by_cases hqt : q = t
      · subst hqt
        rw [k_up_self] at hc
        cases hc
        exact g8
      · rw [k_up_ne _ _ hqt] at hc
        have := h3 _ _ hc
        rcases c with ⟨ci, fs⟩ | ⟨n, f⟩ | ⟨n, f⟩ | ⟨n, f⟩ | ⟨xs, cap⟩ | ⟨n, f⟩
        rotate_right
        · exact this
        · exact this
        · exact this
        · exact this
        · exact this
        · obtain ⟨md', t', e1, e2, e3, e4⟩ := this
          refine ⟨md', t', e1, e2, e3, ?_⟩
          rcases e4 with e5 | ⟨e5, e6, e7, e8⟩
          · exact Or.inl e5
          · exact Or.inr ⟨e5, by rw [k_up_ne _ _ (fun z => by subst z; rw [ho] at e6; cases e6), k_up_ne _ _ (fun z => by subst z; exact hqa (e7.symm.trans g7))]; exact e6, e7, e8⟩
/-- .. and closed again -/
theorem k_close {G : k_G} {h h1 h2 : k_H} {H : Heap} (hp : k_hp G h1 H) {a cap t : Nat} {md : Int32} {xs : List Nat} (e1 : h1.1 a = some (k_o 2 [vI md, vR (some t), vI (nI xs.length)])) (hx : xs.length ≤ cap) (hcap : cap < 2 ^ 30)
    (ht : (cap = 0 ∧ t = k_z0 G) ∨ (0 < cap ∧ t ≠ a ∧ h2.1 t = none ∧ ∃ f : Nat → Option Nat, h1.1 t = some (k_q cap f) ∧ ∀ i : Nat, i < xs.length → f i = xs[i]?))
    (e2 : h2.2 = h1.2) (e3 : h2.1 a = some (k_l xs cap)) (e4 : ∀ q c, q ≠ a → h2.1 q = some c → h1.1 q = some c) : k_hp G h2 H := by
  obtain ⟨p1, p2, p3, F, ow, g1, g3⟩ := hp
  refine ⟨by rw [e2]; exact p1, p2, p3, F, fun z => if 0 < cap ∧ z = t then a else ow z, g1, fun q c hc => ?_⟩
  have ga := g3 _ _ e1
  by_cases hqa : q = a
  · subst hqa
    rw [e3] at hc
    cases hc
    refine ⟨md, t, ga, hx, hcap, ?_⟩
    rcases ht with h9 | ⟨h9, h10, h11, f, h12, h13⟩
    · exact Or.inl h9
    · exact Or.inr ⟨h9, h11, by simp [h9], f, g3 _ _ h12, h13⟩
  · have hc1 := e4 q c hqa hc
    have := g3 _ _ hc1
    rcases c with ⟨ci, fs⟩ | ⟨n, f⟩ | ⟨n, f⟩ | ⟨n, f⟩ | ⟨xs', cap'⟩ | ⟨n, f⟩
    rotate_right
    · exact this
    · exact this
    · exact this
    · exact this
    · exact this
    · obtain ⟨md', t', f1, f2, f3, f4⟩ := this
      refine ⟨md', t', f1, f2, f3, ?_⟩
      rcases f4 with f5 | ⟨f5, f6, f7, f8⟩
      · exact Or.inl f5
      · refine Or.inr ⟨f5, ?_, ?_, f8⟩
        · cases hz : h2.1 t' with
          | none => rfl
          | some c9 =>
            by_cases hta : t' = a
            · subst hta; rw [e1] at f6; cases f6
            · rw [e4 _ _ hta hz] at f6; cases f6
        · have hne : ¬ (0 < cap ∧ t' = t) := by
            rintro ⟨z1, z2⟩
            rcases ht with h9 | ⟨h9, h10, h11, f, h12, h13⟩
            · omega
            · subst z2; rw [h12] at f6; cases f6
          show (if 0 < cap ∧ t' = t then a else ow t') = q
          rw [if_neg hne]
          exact f7
