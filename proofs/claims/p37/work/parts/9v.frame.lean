section
/-! FOREIGN CELLS: a contract over h holds over h and foreign cells, too, and these stay -/
def k_fG (G : k_G) (lo hi : Nat) : k_G := (G.1, G.2.1, (G.2.2.1.1, lo, hi), G.2.2.2)
def k_cn (lo hi : Nat) (h : k_H) : Prop := ∀ q, lo ≤ q → q < hi → h.1 q = none
def k_jn (lo hi : Nat) (f : Nat → k_C) (h : k_H) : k_H := (fun q => if lo ≤ q ∧ q < hi then some (f q) else h.1 q, h.2)
theorem jn_in {lo hi q : Nat} {f : Nat → k_C} {h : k_H} (a : lo ≤ q) (b : q < hi) : (k_jn lo hi f h).1 q = some (f q) := if_pos ⟨a, b⟩
theorem jn_out {lo hi q : Nat} {f : Nat → k_C} {h : k_H} (a : ¬ (lo ≤ q ∧ q < hi)) : (k_jn lo hi f h).1 q = h.1 q := if_neg a
theorem k_fG_ok {G : k_G} {l : Launch} {lo hi : Nat} (ok : k_ok G l) : k_ok (k_fG G lo hi) l := ok
theorem hp_to {G : k_G} {lo hi : Nat} {f : Nat → k_C} {h : k_H} {H : Heap} (hc : k_cn lo hi h) (hh : hi ≤ h.2.1) (hp : k_hp G (k_jn lo hi f h) H) : k_hp (k_fG G lo hi) h H := by
  obtain ⟨p1, p2, p3, F, ow, h1, h2⟩ := hp
  have p1' : H.size = h.2.1 := p1
  have nf : ∀ q c, h.1 q = some c → ¬ (lo ≤ q ∧ q < hi) := fun q c e z => by rw [hc q z.1 z.2] at e; cases e
  refine ⟨p1', ⟨p2.1, by show hi ≤ H.size; omega⟩, p3, fun q => if lo ≤ q ∧ q < hi then none else F q, ow, fun q e he => ?_, fun a c ha => ?_⟩
  · by_cases z : lo ≤ q ∧ q < hi
    · simp only [z, and_self, if_true] at he
      cases he
    · simp only [if_neg z] at he
      obtain ⟨k1, k2⟩ := h1 _ _ he
      refine ⟨⟨k1.1, ?_⟩, k2⟩
      show q < lo ∨ hi ≤ q
      omega
  · have nz := nf _ _ ha
    have h3 := h2 a c (by rw [jn_out nz]; exact ha)
    have kF : ∀ z, ¬ (lo ≤ z ∧ z < hi) → (if lo ≤ z ∧ z < hi then none else F z) = F z := fun z hz => if_neg hz
    rcases c with ⟨ci, fs⟩ | ⟨n, f9⟩ | ⟨n, f9⟩ | ⟨n, f9⟩ | ⟨xs, cap⟩ | ⟨n, f9⟩
    rotate_right
    · exact (kF a nz).trans h3
    · exact (kF a nz).trans h3
    · exact (kF a nz).trans h3
    · exact (kF a nz).trans h3
    · exact (kF a nz).trans h3
    · obtain ⟨md, t, g1, g2, g3, g4⟩ := h3
      refine ⟨md, t, (kF a nz).trans g1, g2, g3, ?_⟩
      rcases g4 with ⟨g5, g6⟩ | ⟨g5, g6, g7, f9, g8, g9⟩
      · exact Or.inl ⟨g5, g6⟩
      · have nt : ¬ (lo ≤ t ∧ t < hi) := fun z => by rw [jn_in z.1 z.2] at g6; cases g6
        exact Or.inr ⟨g5, by rw [← jn_out (f := f) (h := h) nt]; exact g6, g7, f9, (kF t nt).trans g8, g9⟩
theorem hp_fro {G : k_G} {lo hi : Nat} {f : Nat → k_C} {h h' : k_H} {H H1 : Heap} (g0 : k_fh G = 0) (hl : ∀ q xs cap, f q ≠ k_l xs cap) (hp : k_hp G (k_jn lo hi f h) H) (hp1 : k_hp (k_fG G lo hi) h' H1) (hk : ∀ q, lo ≤ q → q < hi → H1[q]? = H[q]?) : k_hp G (k_jn lo hi f h') H1 := by
  obtain ⟨p1, p2, p3, F, ow, h1, h2⟩ := hp
  obtain ⟨q1, q2, q3, F1, ow1, i1, i2⟩ := hp1
  have wo : ∀ q, k_we (k_fG G lo hi) q → ¬ (lo ≤ q ∧ q < hi) := fun q z z2 => by
    have z3 : q < lo ∨ hi ≤ q := z.2
    omega
  have kI : ∀ z, (lo ≤ z ∧ z < hi) → (if lo ≤ z ∧ z < hi then F z else F1 z) = F z := fun z hz => if_pos hz
  have kO : ∀ z, ¬ (lo ≤ z ∧ z < hi) → (if lo ≤ z ∧ z < hi then F z else F1 z) = F1 z := fun z hz => if_neg hz
  refine ⟨q1, ⟨q2.1, by rw [g0]; exact Nat.zero_le _⟩, q3, fun q => if lo ≤ q ∧ q < hi then F q else F1 q, ow1, fun q e he => ?_, fun a c ha => ?_⟩
  · by_cases z : lo ≤ q ∧ q < hi
    · replace he := (kI q z).symm.trans he
      exact ⟨(h1 _ _ he).1, (h1 _ _ he).2.kept (hk q z.1 z.2)⟩
    · replace he := (kO q z).symm.trans he
      obtain ⟨k1, k2⟩ := i1 _ _ he
      exact ⟨⟨k1.1, Or.inr (by rw [g0]; exact Nat.zero_le _)⟩, k2⟩
  · by_cases z : lo ≤ a ∧ a < hi
    · have e0 : c = f a := by rw [jn_in z.1 z.2] at ha; exact (Option.some.inj ha).symm
      have h3 := h2 a c (by rw [jn_in z.1 z.2, e0])
      have hl9 := hl a
      rw [← e0] at hl9
      rcases c with ⟨ci, fs⟩ | ⟨n, f9⟩ | ⟨n, f9⟩ | ⟨n, f9⟩ | ⟨xs, cap⟩ | ⟨n, f9⟩
      · exact (kI a z).trans h3
      · exact (kI a z).trans h3
      · exact (kI a z).trans h3
      · exact (kI a z).trans h3
      · exact absurd rfl (hl9 xs cap)
      · exact (kI a z).trans h3
    · rw [jn_out z] at ha
      have h3 := i2 a c ha
      rcases c with ⟨ci, fs⟩ | ⟨n, f9⟩ | ⟨n, f9⟩ | ⟨n, f9⟩ | ⟨xs, cap⟩ | ⟨n, f9⟩
      rotate_right
      · exact (kO a z).trans h3
      · exact (kO a z).trans h3
      · exact (kO a z).trans h3
      · exact (kO a z).trans h3
      · exact (kO a z).trans h3
      · obtain ⟨md, t, g1, g2, g3, g4⟩ := h3
        refine ⟨md, t, (kO a z).trans g1, g2, g3, ?_⟩
        rcases g4 with ⟨g5, g6⟩ | ⟨g5, g6, g7, f9, g8, g9⟩
        · exact Or.inl ⟨g5, g6⟩
        · have nt := wo t (i1 _ _ g8).1
          exact Or.inr ⟨g5, by rw [jn_out nt]; exact g6, g7, f9, (kO t nt).trans g8, g9⟩
theorem hp_cln {G : k_G} {lo hi : Nat} {h : k_H} {H : Heap} (hp : k_hp (k_fG G lo hi) h H) : k_cn lo hi h := by
  intro q z1 z2
  cases e : h.1 q with
  | none => rfl
  | some c =>
    exfalso
    obtain ⟨p1, p2, p3, F, ow, h1, h2⟩ := hp
    have key : ∀ e9, F q = some e9 → False := fun e9 he => by
      have z3 : q < lo ∨ hi ≤ q := (h1 _ _ he).1.2
      omega
    have h3 := h2 q c e
    rcases c with ⟨ci, fs⟩ | ⟨n, f9⟩ | ⟨n, f9⟩ | ⟨n, f9⟩ | ⟨xs, cap⟩ | ⟨n, f9⟩
    rotate_right
    · exact key _ h3
    · exact key _ h3
    · exact key _ h3
    · exact key _ h3
    · exact key _ h3
    · obtain ⟨md, t, g1, -⟩ := h3
      exact key _ g1
/-- a heap that no machine holds -/
def k_no (h : k_H) : k_H := (fun _ => some (k_l [] (2 ^ 30)), h.2)
theorem no_hp {G : k_G} {h : k_H} {H : Heap} (hp : k_hp G (k_no h) H) : False := by
  obtain ⟨-, -, -, F, ow, h1, h2⟩ := hp
  obtain ⟨md, t, -, -, g3, -⟩ := h2 0 _ rfl
  omega
section KFR
variable {G : k_G} {l : Launch} {y : MethodName} {cc : ByteArray} {mL : Nat} {rt : Option FieldType} {d : Nat} {as : List k_V} {h h' : k_H} {r : k_R} {lo hi : Nat} {f : Nat → k_C}
theorem k_fro1 {m2 : Nat → Option k_C} (hc : k_cn lo hi h) (hh : hi ≤ h.2.1) (C : k_Ct (k_fG G lo hi) l y cc mL rt d as h h' r) (g0 : k_fh G = 0)
    (hpo : ∀ H H1, k_hp G (k_jn lo hi f h) H → k_hp (k_fG G lo hi) h' H1 → (∀ q, lo ≤ q → q < hi → H1[q]? = H[q]?) → k_hp G (m2, h'.2) H1) : k_Ct G l y cc mL rt d as (k_jn lo hi f h) (m2, h'.2) r := by
  have we : ∀ q, k_we (k_fG G lo hi) q → k_we G q := fun q z => ⟨z.1, Or.inr (by rw [g0]; exact Nat.zero_le _)⟩
  have fr : ∀ (s t : State) (L : List Loc) (mc ms : Nat), k_hp G (k_jn lo hi f h) s.heap → s.sameButNew ({ t with vm := s.vm } : State) L mc ms → (∀ z ∈ L, k_we (k_fG G lo hi) z.base) → ∀ q, lo ≤ q → q < hi → t.heap[q]? = s.heap[q]? := fun s t L mc ms hp hs hL q z1 z2 => by
    refine (vx_frame hs).2 q ?_ (fun z hz e => ?_)
    · have e : s.heap.size = h.2.1 := hp.1
      exact Nat.lt_of_lt_of_le (Nat.lt_of_lt_of_le z2 hh) (Nat.le_of_eq e.symm)
    · have z3 : q < lo ∨ hi ≤ q := by rw [← e]; exact (hL z hz).2
      omega
  refine ⟨C.1, C.2.1, ?_⟩
  refine MetFree.mono C.2.2 (fun a s hp => ⟨hp.1, hp_to hc hh hp.2.1, hp.2.2⟩) (fun _ _ _ _ _ h => h) (fun a s o t hP hq => ?_)
  rcases hq with ⟨⟨v, e1, e2, e3⟩, L, hF, hL⟩ | ⟨q, e1, E, ce, L, ⟨e2, e3⟩, e4, e5, e6, e7, e8, hL⟩
  · exact Or.inl ⟨⟨v, e1, e2, hpo _ _ hP.2.1 e3 (fr s t L _ _ hP.2.1 hF.2.2 hL)⟩, L, hF, fun z hz => we _ (hL z hz)⟩
  · exact Or.inr ⟨q, e1, E, ce, L, ⟨e2, hpo _ _ hP.2.1 e3 (fr s t L _ _ hP.2.1 e8 hL)⟩, e4, e5, e6, e7, e8, fun z hz => we _ (hL z hz)⟩
/-- THE FRAME: behind the call the foreign cells are as they were; or no machine comes there -/
theorem k_fro (g0 : k_fh G = 0) (hl : ∀ q xs cap, f q ≠ k_l xs cap) (hc : k_cn lo hi h) (hh : hi ≤ h.2.1) (C : k_Ct (k_fG G lo hi) l y cc mL rt d as h h' r) :
    (k_cn lo hi h' ∧ k_Ct G l y cc mL rt d as (k_jn lo hi f h) (k_jn lo hi f h') r) ∨ k_Ct G l y cc mL rt d as (k_jn lo hi f h) (k_no h') r := by
  by_cases z : k_cn lo hi h'
  · exact Or.inl ⟨z, k_fro1 hc hh C g0 (fun H H1 a b e => hp_fro g0 hl a b e)⟩
  · exact Or.inr (k_fro1 hc hh C g0 (fun H H1 a b e => absurd (hp_cln b) z))
end KFR
end
section
/-! A METHOD WITH HANDLERS: its judgement, its rows, its calls -/
def k_Jw (G : k_G) (l : Launch) (y : MethodName) (cc : ByteArray) (mL : Nat) (rt : Option FieldType) (d : Nat) (hh : List (Nat × Nat × Nat × Nat)) (h0 : k_H) (h : k_H) (pc : Nat) (lv : k_L) (st : List k_V) (h' : k_H) (r : k_R) : Prop :=
  h.2.1 ≤ h'.2.1 ∧ h.2.2 ≤ h'.2.2 ∧ ∀ (p : Program) (e : Env) (s : State) (m : MethodId) (args : Array Value) (below : List Frame) (meth : Method) (c : Code), k_Cx G l y cc mL rt h0 p e s m args meth c → c.exceptionTable.toList = tableOf hh →
    ∀ (H : Heap) (locs : List Loc) (k n : Nat) (ls : Array Slot), k_hp G h H → (∀ q ∈ locs, k_we G q.base) → k + h0.2.1 = h.2.1 → n + h0.2.2 = h.2.2 → lv_has ls mL (k_lm lv) →
      W p l e (k_rm d h0 h') s m args below meth c H locs k n (vx_MQ below (k_Q G h' r) (k_XC G h' r) args s (h'.2.1 - h0.2.1) (h'.2.2 - h0.2.2) (k_we G)) (F0 m pc ls (st.map k_v))
section KJW
variable {G : k_G} {l : Launch} {y : MethodName} {cc : ByteArray} {mL : Nat} {rt : Option FieldType} {d : Nat} {hh : List (Nat × Nat × Nat × Nat)} {h0 h h' : k_H} {pc : Nat} {lv : k_L} {st : List k_V} {r : k_R}
theorem w_iconst {n0 : Int} {v : Int32} (hdg : decode cc pc = .ok (.iconst n0, 1)) (hc : Int32.ofInt n0 = v) (K : k_Jw G l y cc mL rt d hh h0 h (pc + 1) lv (vI v :: st) h' r) : k_Jw G l y cc mL rt d hh h0 h pc lv (st) h' r :=
  ⟨K.1, K.2.1, fun p e s m args below meth c C ht H locs k n ls hp hl hk hn hv => lv_iconst C.1 C.2.1 hdg hc (K.2.2 p e s m args below meth c C ht H locs k n ls hp hl hk hn hv)⟩
theorem w_iload_n {k0 : Fin 4} {i : Nat} {x : Int32} (hdg : decode cc pc = .ok (.iload_n k0, 1)) (hi : (k0 : Nat) = i) (hx : lv.lookup i = some (vI x)) (K : k_Jw G l y cc mL rt d hh h0 h (pc + 1) lv (vI x :: st) h' r) : k_Jw G l y cc mL rt d hh h0 h pc lv (st) h' r :=
  ⟨K.1, K.2.1, fun p e s m args below meth c C ht H locs k n ls hp hl hk hn hv => lv_iload_n C.1 C.2.1 hdg hi (k_lk hv hx) (K.2.2 p e s m args below meth c C ht H locs k n ls hp hl hk hn hv)⟩
theorem w_iload {i : Nat} {x : Int32} (hdg : decode cc pc = .ok (.iload i, 2)) (hx : lv.lookup i = some (vI x)) (K : k_Jw G l y cc mL rt d hh h0 h (pc + 2) lv (vI x :: st) h' r) : k_Jw G l y cc mL rt d hh h0 h pc lv (st) h' r :=
  ⟨K.1, K.2.1, fun p e s m args below meth c C ht H locs k n ls hp hl hk hn hv => lv_iload C.1 C.2.1 hdg (k_lk hv hx) (K.2.2 p e s m args below meth c C ht H locs k n ls hp hl hk hn hv)⟩
theorem w_aload_n {k0 : Fin 4} {i : Nat} {x : Option Nat} (hdg : decode cc pc = .ok (.aload_n k0, 1)) (hi : (k0 : Nat) = i) (hx : lv.lookup i = some (vR x)) (K : k_Jw G l y cc mL rt d hh h0 h (pc + 1) lv (vR x :: st) h' r) : k_Jw G l y cc mL rt d hh h0 h pc lv st h' r := by
  refine ⟨K.1, K.2.1, fun p e s m args below meth c C ht H locs k n ls hp hl hk hn hv => ?_⟩
  have K9 := K.2.2 p e s m args below meth c C ht H locs k n ls hp hl hk hn hv
  cases x with
  | none => exact lv_aload_nN C.1 C.2.1 hdg hi (k_lk hv hx) K9
  | some a => exact lv_aload_n C.1 C.2.1 hdg hi (k_lk hv hx) K9
theorem w_aload {i : Nat} {x : Option Nat} (hdg : decode cc pc = .ok (.aload i, 2))  (hx : lv.lookup i = some (vR x)) (K : k_Jw G l y cc mL rt d hh h0 h (pc + 2) lv (vR x :: st) h' r) : k_Jw G l y cc mL rt d hh h0 h pc lv st h' r := by
  refine ⟨K.1, K.2.1, fun p e s m args below meth c C ht H locs k n ls hp hl hk hn hv => ?_⟩
  have K9 := K.2.2 p e s m args below meth c C ht H locs k n ls hp hl hk hn hv
  cases x with
  | none => exact lv_aloadN C.1 C.2.1 hdg (k_lk hv hx) K9
  | some a => exact lv_aload C.1 C.2.1 hdg (k_lk hv hx) K9
theorem w_astore {i : Nat} {x : Option Nat} {lv9 : k_L} (hdg : decode cc pc = .ok (.astore i, 2))  (hb : i < mL) (hl9 : k_st1 lv i (vR x) = lv9) (K : k_Jw G l y cc mL rt d hh h0 h (pc + 2) lv9 st h' r) : k_Jw G l y cc mL rt d hh h0 h pc lv (vR x :: st) h' r := by
  subst hl9
  refine ⟨K.1, K.2.1, fun p e s m args below meth c C ht H locs k n ls hp hl hk hn hv => ?_⟩
  cases x with
  | none => exact lv_astoreN C.1 C.2.1 hdg hv hb rfl (fun ls9 hv9 => K.2.2 p e s m args below meth c C ht H locs k n ls9 hp hl hk hn (lv_mono hv9 (k_st1_sub lv i _)))
  | some a => exact lv_astore C.1 C.2.1 hdg hv hb rfl (fun ls9 hv9 => K.2.2 p e s m args below meth c C ht H locs k n ls9 hp hl hk hn (lv_mono hv9 (k_st1_sub lv i _)))
theorem w_astore_n {k0 : Fin 4} {i : Nat} {x : Option Nat} {lv9 : k_L} (hdg : decode cc pc = .ok (.astore_n k0, 1)) (hi : (k0 : Nat) = i) (hb : i < mL) (hl9 : k_st1 lv i (vR x) = lv9) (K : k_Jw G l y cc mL rt d hh h0 h (pc + 1) lv9 st h' r) : k_Jw G l y cc mL rt d hh h0 h pc lv (vR x :: st) h' r := by
  subst hl9
  refine ⟨K.1, K.2.1, fun p e s m args below meth c C ht H locs k n ls hp hl hk hn hv => ?_⟩
  cases x with
  | none => exact lv_astore_nN C.1 C.2.1 hdg hi hv hb rfl (fun ls9 hv9 => K.2.2 p e s m args below meth c C ht H locs k n ls9 hp hl hk hn (lv_mono hv9 (k_st1_sub lv i _)))
  | some a => exact lv_astore_n C.1 C.2.1 hdg hi hv hb rfl (fun ls9 hv9 => K.2.2 p e s m args below meth c C ht H locs k n ls9 hp hl hk hn (lv_mono hv9 (k_st1_sub lv i _)))
theorem w_i2l {x : Int32} (hdg : decode cc pc = .ok (.i2l, 1))  (K : k_Jw G l y cc mL rt d hh h0 h (pc + 1) lv (vJ x.toInt64 :: st) h' r) : k_Jw G l y cc mL rt d hh h0 h pc lv (vI x :: st) h' r :=
  ⟨K.1, K.2.1, fun p e s m args below meth c C ht H locs k n ls hp hl hk hn hv => lv_i2l C.1 C.2.1 hdg rfl (K.2.2 p e s m args below meth c C ht H locs k n ls hp hl hk hn hv)⟩
theorem w_goto {off : Int} {tgt : Nat} (hdg : decode cc pc = .ok (.goto off, 3)) (ht9 : (pc : Int) + off = (tgt : Int)) (K : k_Jw G l y cc mL rt d hh h0 h tgt lv st h' r) : k_Jw G l y cc mL rt d hh h0 h pc lv st h' r :=
  ⟨K.1, K.2.1, fun p e s m args below meth c C ht H locs k n ls hp hl hk hn hv => lv_goto C.1 C.2.1 hdg ht9 (K.2.2 p e s m args below meth c C ht H locs k n ls hp hl hk hn hv)⟩
theorem w_iret {x : Int32} (hdg : decode cc pc = .ok (.ireturn, 1)) (hr : rt = some .int) : k_Jw G l y cc mL rt d hh h0 h pc lv [vI x] h (.inl (some (vI x))) :=
  ⟨Nat.le_refl _, Nat.le_refl _, fun p e s m args below meth c C ht H locs k n ls hp hl hk hn hv => by
    rw [k_cnt hk, k_cnt hn]
    exact vx_ret (W.iret C.1 C.2.1 (C.2.2.1.trans hr) (fun t ht9 hW => ⟨_, rfl, rfl, by rw [ht9]; exact hp⟩) hl hdg C.2.2.2.2.2.2.1)⟩
/-- a call that returns -/
theorem w_callV {b idx ci n0 d' : Nat} {as ast : List k_V} {y' : MethodName} {cc' : ByteArray} {mL' : Nat} {rt' : Option FieldType} {h1 : k_H} {v : Option k_V} (hdg : decode cc pc = .ok (.invokevirtual idx, 3)) (hw : k_cV y.cls idx ci y' cc' mL' rt' n0) (hn9 : as.length = n0) (hr9 : as.reverse ++ vR (some b) :: st = ast) (hi : k_is h b ci) (hd : d' + 1 ≤ d) (hst : (st.map k_cat).sum ≤ 8)
    (hC : k_Ct G l y' cc' mL' rt' d' (vR (some b) :: as) h h1 (.inl v)) (K : k_Jw G l y cc mL rt d hh h0 h1 (pc + 3) lv (v.toList ++ st) h' r) : k_Jw G l y cc mL rt d hh h0 h pc lv ast h' r := by
  obtain ⟨wB, w2, w3, T, N, w4⟩ := hw
  have o1 := hC.1
  have o2 := hC.2.1
  have o3 := K.1
  have o4 := K.2.1
  refine ⟨by omega, by omega, fun p e s m args below meth c C ht H locs k n ls hp hl hk hn hv => ?_⟩
  have hts := C.2.2.2.2.2.1
  have hE := C.2.2.2.2.2.2.2.2.1
  refine k_cont (va_runV (As := as.map k_v) (C := y'.cls) (n := n0) (nL := mL) ⟨C.1, C.2.1, C.2.2.2.1, C.2.2.2.2.1, hts⟩ (k_met hC) ⟨k_cbOf hts wB hd, hts _ w2, hts _ w3⟩ ⟨k_blind _ _ _, k_recv hE hp hi w4, fun U hU hW => ⟨rfl, by rw [hU]; exact hp, k_E.warm hW hE⟩⟩ rfl (by rw [List.length_map]; exact hn9) hv.1 (by rw [← hr9]; simp [List.map_reverse, k_v]) (by rw [show (F0 m pc ls (ast.map k_v)).monitorRoom = 0 from rfl, k_catR]; omega) hdg (by show k + _ ≤ h'.2.1 - h0.2.1 ∧ n + _ ≤ h'.2.2 - h0.2.2; omega)) hl (fun H1 locs1 hp1 hl1 => K.2.2 p e s m args below meth c C ht H1 locs1 _ _ ls hp1 hl1 (by omega) (by omega) hv)
/-- .. that throws what a row of the table takes -/
theorem w_callVx {b idx ci n0 d' : Nat} {as ast : List k_V} {y' : MethodName} {cc' : ByteArray} {mL' : Nat} {rt' : Option FieldType} {h1 : k_H} {E name : String} (pre : List ExceptionTableEntry) (x : ExceptionTableEntry) (suf : List ExceptionTableEntry) (hsp : tableOf hh = pre ++ x :: suf)
    (hpass : ∀ z ∈ pre, z.catchType ≠ 0 ∧ ∃ nm : String, Cond.classLink y.cls z.catchType nm ∈ k_tbl ∧ (E, nm) ∈ k_ncasts) (hx : covers x pc = true) (hx0 : x.catchType ≠ 0) (hlk : Cond.classLink y.cls x.catchType name ∈ k_tbl) (hct : (E, name) ∈ k_casts)
    (hdg : decode cc pc = .ok (.invokevirtual idx, 3)) (hw : k_cV y.cls idx ci y' cc' mL' rt' n0) (hn9 : as.length = n0) (hr9 : as.reverse ++ vR (some b) :: st = ast) (hi : k_is h b ci) (hd : d' + 1 ≤ d) (hst : (st.map k_cat).sum ≤ 8)
    (hC : k_Ct G l y' cc' mL' rt' d' (vR (some b) :: as) h h1 (.inr E)) (K : ∀ q, k_Jw G l y cc mL rt d hh h0 h1 x.handlerPc lv [vR (some q)] h' r) : k_Jw G l y cc mL rt d hh h0 h pc lv ast h' r := by
  obtain ⟨wB, w2, w3, T, N, w4⟩ := hw
  have o1 := hC.1
  have o2 := hC.2.1
  have o3 := (K 0).1
  have o4 := (K 0).2.1
  refine ⟨by omega, by omega, fun p e s m args below meth c C ht H locs k n ls hp hl hk hn hv => ?_⟩
  have hts := C.2.2.2.2.2.1
  have hE := C.2.2.2.2.2.2.2.2.1
  have hr := vx_runV (p := p) (l := l) (e := e) (R := k_rm d h0 h') (s := s) (m := m) (args := args) (below := below) (meth := meth) (c := c) (H := H) (locs := locs) (cells := k) (slots := n) (cc := cc) (As := as.map k_v) (C := y'.cls) (n := n0) (nL := mL) (rest := st.map k_v) (g := F0 m pc ls (ast.map k_v)) (b := b) (own := y.cls) (index := idx) ⟨C.1, C.2.1, C.2.2.2.1, C.2.2.2.2.1, hts⟩ hC.2.2 ⟨k_cbOf hts wB hd, hts _ w2, hts _ w3⟩ ⟨k_blind _ _ _, k_recv hE hp hi w4, fun U hU hW => ⟨rfl, by rw [hU]; exact hp, k_E.warm hW hE⟩⟩ rfl (by rw [List.length_map]; exact hn9) hv.1 (by rw [← hr9]; simp [List.map_reverse, k_v]) (by rw [show (F0 m pc ls (ast.map k_v)).monitorRoom = 0 from rfl, k_catR]; omega) hdg (by show k + _ ≤ h'.2.1 - h0.2.1 ∧ n + _ ≤ h'.2.2 - h0.2.2; omega)
  intro T hT X
  rcases hr T hT X with ⟨v9, st₀, t, T', L, e0, X', hL, e1, e2, ⟨v8, hv8, ho, hq⟩, hgo⟩ | ⟨q, st₀, t, T', L, E9, ce, e0, X', hL, e1, e2, ⟨hE9, hp1⟩, hce, hcv, hcl, hgo⟩
  · cases hv8
  · cases hE9
    have hw9 := vx_catch (p := p) (l := l) (e := e) (R := k_rm d h0 h') (s := s) (m := m) (args := args) (below := below) (meth := meth) (c := c) (H := T'.heap) (locs := locs ++ L) (cells := k + (h1.2.1 - h.2.1)) (slots := n + (h1.2.2 - h.2.2)) (ls := ls) (rest := st.map k_v) (pc := pc) (E := E) (q := q) (ce := ce) C.2.2.2.2.1 pre x suf (ht.trans hsp)
      (fun z hz => Or.inr (by obtain ⟨z0, nm, z1, z2⟩ := hpass z hz; exact ⟨z0, nm, hts _ z1, hE.2.2.2.2.2.2.2.2.1 _ z2⟩)) hx hx0 (hts _ hlk) (va_Nw.use rfl (hE.2.2.2.2.2.2.2.1 _ hct)) (by rw [e1]; exact hce) hcv hcl
      ((K q).2.2 p e s m args below meth c C ht T'.heap (locs ++ L) (k + (h1.2.1 - h.2.1)) (n + (h1.2.2 - h.2.2)) ls (by rw [e1]; exact hp1) (fun z hz => by rcases List.mem_append.mp hz with z9 | z9; exact hl z z9; exact hL z z9) (by omega) (by omega) hv)
    obtain ⟨t2, a1, b1⟩ := hw9 T' rfl X'
    exact ⟨t2, hgo.trans a1, b1⟩
end KJW
/-- the contract of a method with handlers -/
def k_Cw (G : k_G) (l : Launch) (y : MethodName) (cc : ByteArray) (mL : Nat) (rt : Option FieldType) (d : Nat) (hh : List (Nat × Nat × Nat × Nat)) (as : List k_V) (h h' : k_H) (r : k_R) : Prop :=
  h.2.1 ≤ h'.2.1 ∧ h.2.2 ≤ h'.2.2 ∧ vx_Met l y (.codeWith y cc mL rt hh :: k_tbl) (k_rm d h h') (k_Pc G as h) (k_Q G h' r) (k_XC G h' r) (h'.2.1 - h.2.1) (h'.2.2 - h.2.2) (k_we G)
section KCW
variable {G : k_G} {l : Launch} {y : MethodName} {cc : ByteArray} {mL : Nat} {rt : Option FieldType} {d : Nat} {hh : List (Nat × Nat × Nat × Nat)} {h0 h h' : k_H} {pc : Nat} {lv : k_L} {st : List k_V} {r : k_R}
theorem k_CwOf {as : List k_V} (hy : plainName y.cls = true) (hlen : (as.map k_cat).sum ≤ mL) (K : k_Jw G l y cc mL rt d hh h h 0 (k_args 0 as) [] h' r) (hfl : l.flags = flags0) : k_Cw G l y cc mL rt d hh as h h' r := by
  refine ⟨K.1, K.2.1, vx_ofWH (cc := cc) (maxL := mL) (ret := rt) (hh := hh) hy rfl ?_⟩
  intro p e s m args below meth c s₁ B hml hv
  obtain ⟨rfl, hp, hE⟩ := hv
  have hts := atoms_spec (ws := .codeWith y cc mL rt hh :: k_tbl) B.pre
  have ht : c.exceptionTable.toList = tableOf hh := vx_table (x := y) B (hts _ List.mem_cons_self)
  have hown : s.vm.findClass y.cls = some m.cls := findClass_of_methodNamed B.named
  have hl := lv_entry (as.map k_v) (n := mL) (by rw [k_args_len]; exact hlen)
  rw [k_args_lm] at hl
  rw [lg_entry_eq]
  exact K.2.2 p e s m _ below meth c ⟨B.exec, B.bytes, B.returns, hml, hown, fun w hw => hts w (List.mem_cons_of_mem _ hw), B.notSynchronized, (name_of_methodNamed B.named B.method).1, hE, hp, hfl⟩ ht s.heap [] 0 0 _ hp (fun _ h => by cases h) (by omega) (by omega) hl
def k_cW (own : String) (idx : Nat) (y : MethodName) (cc : ByteArray) (mL : Nat) (rt : Option FieldType) (hh : List (Nat × Nat × Nat × Nat)) (n : Nat) : Prop :=
  Cond.codeWith y cc mL rt hh ∈ k_tbl ∧ Cond.initialized y.cls ∈ k_tbl ∧ (y.cls ≠ "java/lang/invoke/MethodHandle" ∧ y.cls ≠ "java/lang/invoke/VarHandle") ∧ (parseMethodDescriptor y.desc).map (fun d => d.parameters.length) = some n ∧ mL ≤ 21 ∧ Cond.methodLink own idx y ∈ k_tbl ∧ Cond.static y ∈ k_tbl
/-- a static call of a method with handlers, that returns -/
theorem j_callW {idx n0 d' : Nat} {as ast : List k_V} {y' : MethodName} {cc' : ByteArray} {mL' : Nat} {rt' : Option FieldType} {hh' : List (Nat × Nat × Nat × Nat)} {h1 : k_H} {v : Option k_V} (hdg : decode cc pc = .ok (.invokestatic idx, 3)) (hw : k_cW y.cls idx y' cc' mL' rt' hh' n0) (hn9 : as.length = n0) (hr9 : as.reverse ++ st = ast) (hd : d' + 1 ≤ d) (hst : (st.map k_cat).sum ≤ 8)
    (hC : k_Cw G l y' cc' mL' rt' d' hh' as h h1 (.inl v)) (K : k_J G l y cc mL rt d h0 h1 (pc + 3) lv (v.toList ++ st) h' r) : k_J G l y cc mL rt d h0 h pc lv ast h' r := by
  obtain ⟨w1, w2, w3, w4, w5, w6, w7⟩ := hw
  have o1 := hC.1
  have o2 := hC.2.1
  have o3 := K.1
  have o4 := K.2.1
  refine ⟨by omega, by omega, fun p e s m args below meth c C ht H locs k n ls hp hl hk hn hv => ?_⟩
  have hts := C.2.2.2.2.2.1
  have hE := C.2.2.2.2.2.2.2.2.1
  have hr := vx_runSX (p := p) (l := l) (e := e) (R := k_rm d h0 h') (s := s) (m := m) (args := args) (below := below) (meth := meth) (c := c) (H := H) (locs := locs) (cells := k) (slots := n) (cc := cc) (hh := hh') (As := as.map k_v) (n := n0) (nL := mL) (rest := st.map k_v) (g := F0 m pc ls (ast.map k_v)) (own := y.cls) (index := idx) (Ts := k_tbl) (rm := k_rm d' h h1) (bytes := cc') (maxL := mL') (ret := rt') ⟨C.1, C.2.1, C.2.2.2.1, C.2.2.2.2.1, hts⟩ hC.2.2
    ⟨⟨rfl, rfl, hd, by show 8 + (mL' + 11) + 40 * d' ≤ 40 * d; omega, k_payAll hts w1, List.mem_cons_self⟩, hts _ w1, hts _ w2, w3, fun sig h9 => by rw [h9] at w4; exact (Option.some.inj w4).symm, hts _ w6, hts _ w7⟩ ⟨k_blind _ _ _, fun U hU hW => ⟨rfl, by rw [hU]; exact hp, k_E.warm hW hE⟩⟩ rfl (by rw [List.length_map]; exact hn9) hv.1 (by rw [← hr9]; simp [List.map_reverse]) (by rw [show (F0 m pc ls (ast.map k_v)).monitorRoom = 0 from rfl, k_catR]; omega) hdg (by show k + _ ≤ h'.2.1 - h0.2.1 ∧ n + _ ≤ h'.2.2 - h0.2.2; omega)
  intro T hT X
  rcases hr T hT X with ⟨v9, st₀, t, T', L, e0, X', hL, e1, e2, ⟨v8, hv8, ho, hq⟩, hgo⟩ | ⟨q, st₀, t, T', L, E9, ce, e0, X', hL, e1, e2, ⟨hE9, hp1⟩, hce, hcv, hcl, hgo⟩
  · cases hv8
    cases ho
    obtain ⟨t2, a1, b1⟩ := K.2.2 p e s m args below meth c C ht T'.heap (locs ++ L) (k + (h1.2.1 - h.2.1)) (n + (h1.2.2 - h.2.2)) ls (by rw [e1]; exact hq) (fun q hq => by rcases List.mem_append.mp hq with z | z; exact hl q z; exact hL q z) (by omega) (by omega) hv T' rfl X'
    refine ⟨t2, hgo t2 ?_, b1⟩
    cases v <;> exact a1
  · cases hE9
/-- where no machine comes, all holds -/
theorem j_no : k_J G l y cc mL rt d h0 (k_no h) pc lv st (k_no h) r :=
  ⟨Nat.le_refl _, Nat.le_refl _, fun p e s m args below meth c C ht H locs k n ls hp hl hk hn hv => (no_hp hp).elim⟩
theorem w_no {x : k_R} : k_Jw G l y cc mL rt d hh h0 (k_no h) pc lv st (k_no h) x :=
  ⟨Nat.le_refl _, Nat.le_refl _, fun p e s m args below meth c C ht H locs k n ls hp hl hk hn hv => (no_hp hp).elim⟩
end KCW
end
