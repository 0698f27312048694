section
/-! THE PURE WORLD: cells by address, and what it means that a machine's heap holds them -/
/-- a value: an int, a long, a reference or null -/
abbrev k_V : Type := Int32 ⊕ (Int64 ⊕ Option Nat)
abbrev vI (x : Int32) : k_V := .inl x
abbrev vJ (x : Int64) : k_V := .inr (.inl x)
abbrev vR (r : Option Nat) : k_V := .inr (.inr r)
def k_v : k_V → Value
  | .inl x => .int x
  | .inr (.inl x) => .long x
  | .inr (.inr none) => .null
  | .inr (.inr (some a)) => .ref a
def k_cat : k_V → Nat
  | .inl _ => 1
  | .inr (.inl _) => 2
  | .inr (.inr _) => 1
theorem k_v_cat (v : k_V) : (k_v v).category = k_cat v := by
  rcases v with x | x | _ | a <;> rfl
theorem k_v_rf (r : Option Nat) : k_v (vR r) = va_rf r := by cases r <;> rfl
/-- a pure cell: an object (place of its class in vwCl, fields), a row of ints, of longs, of booleans, a list (its references, its capacity), a row of references -/
abbrev k_C : Type := (Nat × List k_V) ⊕ ((Nat × (Nat → Int32)) ⊕ ((Nat × (Nat → Int64)) ⊕ ((Nat × (Nat → Int32)) ⊕ ((List Nat × Nat) ⊕ (Nat × (Nat → Option Nat))))))
abbrev k_o (ci : Nat) (fs : List k_V) : k_C := .inl (ci, fs)
abbrev k_i (n : Nat) (f : Nat → Int32) : k_C := .inr (.inl (n, f))
abbrev k_j (n : Nat) (f : Nat → Int64) : k_C := .inr (.inr (.inl (n, f)))
abbrev k_z (n : Nat) (f : Nat → Int32) : k_C := .inr (.inr (.inr (.inl (n, f))))
abbrev k_l (xs : List Nat) (cap : Nat) : k_C := .inr (.inr (.inr (.inr (.inl (xs, cap)))))
abbrev k_q (n : Nat) (f : Nat → Option Nat) : k_C := .inr (.inr (.inr (.inr (.inr (n, f)))))
/-- the pure heap: cells, how many addresses are used, how many slots were made -/
abbrev k_H : Type := (Nat → Option k_C) × Nat × Nat
/-- what is fixed: class numbers and slots; the array classes of int, long, boolean, Object; the heap at the start, and which cells behind it are foreign; the empty row of ArrayList; the script -/
abbrev k_G : Type := va_G × (ClassId × ClassId × ClassId × ClassId) × (Heap × Nat × Nat) × (Nat × Nat) × (Nat × Nat × (Nat → Int32))
abbrev k_D (G : k_G) : va_G := G.1
abbrev k_cI (G : k_G) : ClassId := G.2.1.1
abbrev k_cJ (G : k_G) : ClassId := G.2.1.2.1
abbrev k_cZ (G : k_G) : ClassId := G.2.1.2.2.1
abbrev k_cQ (G : k_G) : ClassId := G.2.1.2.2.2
abbrev k_H0 (G : k_G) : Heap := G.2.2.1.1
/-- the cells from k_fl to before k_fh are foreign: they belong to nobody of this world, and stay -/
abbrev k_fl (G : k_G) : Nat := G.2.2.1.2.1
abbrev k_fh (G : k_G) : Nat := G.2.2.1.2.2
def k_we (G : k_G) (q : Nat) : Prop := (k_H0 G).size ≤ q ∧ (q < k_fl G ∨ k_fh G ≤ q)
abbrev k_z0 (G : k_G) : Nat := G.2.2.2.1.1
abbrev k_mi (G : k_G) : Nat := G.2.2.2.1.2
abbrev k_sb (G : k_G) : Nat := G.2.2.2.2.1
abbrev k_sL (G : k_G) : Nat := G.2.2.2.2.2.1
abbrev k_sx (G : k_G) : Nat → Int32 := G.2.2.2.2.2.2
abbrev k_tys (G : k_G) : List (ClassId × FieldType) := [(k_cI G, .int), (k_cI G, .int), (k_cI G, .int), (k_cQ G, .object "java/lang/Object")]
/-- a pure cell c at a, by the machine's cells F; ow: whose a list's row is -/
def k_den (G : k_G) (m : Nat → Option k_C) (F : Nat → Option va_E) (ow : Nat → Nat) (a : Nat) : k_C → Prop
  | .inl (ci, fs) => F a = some (.inr (ci, fs.map k_v))
  | .inr (.inl (n, f)) => F a = some (.inl (k_cI G, n, .inl f))
  | .inr (.inr (.inl (n, f))) => F a = some (.inl (k_cJ G, n, .inr (.inl f)))
  | .inr (.inr (.inr (.inl (n, f)))) => F a = some (.inl (k_cZ G, n, .inl f))
  | .inr (.inr (.inr (.inr (.inr (n, f))))) => F a = some (.inl (k_cQ G, n, .inr (.inr (.inr (.inr f)))))
  | .inr (.inr (.inr (.inr (.inl (xs, cap))))) => ∃ (md : Int32) (t : Nat), F a = some (.inr (2, [.int md, .ref t, .int (nI xs.length)])) ∧ xs.length ≤ cap ∧ cap < 2 ^ 30 ∧
      ((cap = 0 ∧ t = k_z0 G) ∨ (0 < cap ∧ m t = none ∧ ow t = a ∧ ∃ f : Nat → Option Nat, F t = some (.inl (k_cQ G, cap, .inr (.inr (.inr (.inr f))))) ∧ ∀ i : Nat, i < xs.length → f i = xs[i]?))
/-- the machine's heap H holds the pure heap h -/
def k_hp (G : k_G) (h : k_H) (H : Heap) : Prop := H.size = h.2.1 ∧ ((k_H0 G).size ≤ H.size ∧ k_fh G ≤ H.size) ∧ (∀ q : Nat, q < (k_H0 G).size → H[q]? = (k_H0 G)[q]?) ∧
  ∃ (F : Nat → Option va_E) (ow : Nat → Nat), (∀ (q : Nat) (e : va_E), F q = some e → k_we G q ∧ va_at (k_D G) vwCl (q, e) H) ∧ ∀ (a : Nat) (c : k_C), h.1 a = some c → k_den G h.1 F ow a c
/-- a cell of the world is changed or made -/
def k_up (h : k_H) (a : Nat) (c : k_C) : k_H := (fun q => if q = a then some c else h.1 q, h.2.1, h.2.2)
/-- a new cell, of n slots -/
def k_nw (h : k_H) (n : Nat) (c : k_C) : k_H := (fun q => if q = h.2.1 then some c else h.1 q, h.2.1 + 1, h.2.2 + n)
/-- cells that nobody reads any more: k cells of n slots -/
def k_sk (h : k_H) (k n : Nat) : k_H := (h.1, h.2.1 + k, h.2.2 + n)
abbrev k_bl (x : Int32) : Prop := x = 0 ∨ x = 1
theorem k_P1 {D : va_G} {cl : List vw_C} {q : Nat × va_E} {H : Heap} (h : va_at D cl q H) : va_P D cl [q] H := by
  intro k x hx
  match k, hx with
  | 0, hx => cases hx; exact h
theorem k_up_self (h : k_H) (a : Nat) (c : k_C) : (k_up h a c).1 a = some c := by simp [k_up]
theorem k_up_ne (h : k_H) {a b : Nat} (c : k_C) (e : b ≠ a) : (k_up h a c).1 b = h.1 b := by simp [k_up, e]
theorem k_nw_self (h : k_H) (n : Nat) (c : k_C) : (k_nw h n c).1 h.2.1 = some c := by simp [k_nw]
theorem k_nw_ne (h : k_H) (n : Nat) {b : Nat} (c : k_C) (e : b ≠ h.2.1) : (k_nw h n c).1 b = h.1 b := by simp [k_nw, e]
/-- the words that stay: of every method of the world -/
def k_tbl : List Cond := lw_tbl.filter goodWord
theorem k_in {w : Cond} (i : Nat) (h : lw_tbl[i]? = some w) (g : goodWord w = true) : w ∈ k_tbl := List.mem_filter.mpr ⟨List.mem_of_getElem? h, g⟩
theorem k_good_tbl : ∀ w ∈ k_tbl, (w.onTables && w.keeps) = true ∨ ∃ ty, w = .arrayClass ty := fun w h => good_of_word (List.mem_filter.mp h).2
theorem k_goodIn {c y : Cond} (h : y ∈ k_tbl) : GoodIn (c :: k_tbl) (y :: k_tbl) := fun w hw => by
  rcases List.mem_cons.mp hw with e | e
  · subst e; exact ⟨List.mem_cons_of_mem _ h, k_good_tbl _ h⟩
  · exact ⟨List.mem_cons_of_mem _ e, k_good_tbl _ e⟩
theorem k_goodIn1 {c w : Cond} (h : w ∈ k_tbl) : w ∈ c :: k_tbl ∧ ((w.onTables && w.keeps) = true ∨ ∃ ty, w = .arrayClass ty) := ⟨List.mem_cons_of_mem _ h, k_good_tbl _ h⟩
theorem k_goodV {c y : Cond} {own C : String} {idx : Nat} {x : MethodName} (h : y ∈ k_tbl) (h1 : Cond.methodLink own idx x ∈ k_tbl) (h2 : Cond.instanceMethod x ∈ k_tbl) (h3 : Cond.selects C x x ∈ k_tbl) (h4 : Cond.initialized C ∈ k_tbl) : GoodIn (c :: k_tbl) (wsV own idx C x (y :: k_tbl)) := by
  intro w hw
  unfold wsV at hw
  rcases List.mem_append.mp hw with e | e
  · simp only [List.mem_cons, List.not_mem_nil, or_false] at e
    rcases e with rfl | rfl | rfl | rfl
    · exact k_goodIn1 h1
    · exact k_goodIn1 h2
    · exact k_goodIn1 h3
    · exact k_goodIn1 h4
  · exact k_goodIn h w e
/-- the locals, in the order of their places -/
abbrev k_L : Type := List (Nat × k_V)
def k_lm (lv : k_L) : List (Nat × Value) := lv.map (fun q => (q.1, k_v q.2))
def k_ins (q : Nat × k_V) : k_L → k_L
  | [] => [q]
  | x :: t => if q.1 < x.1 then q :: x :: t else x :: k_ins q t
def k_st1 (lv : k_L) (i : Nat) (v : k_V) : k_L := k_ins (i, v) (lv.filter (fun q => !(q.1 == i) && !(q.1 + 1 == i && k_cat q.2 == 2)))
def k_st2 (lv : k_L) (i : Nat) (v : k_V) : k_L := k_ins (i, v) (lv.filter (fun q => !(q.1 == i) && (!(q.1 == i + 1) && !(q.1 + 1 == i && k_cat q.2 == 2))))
theorem k_ins_mem {q z : Nat × k_V} {t : k_L} (h : z ∈ k_ins q t) : z = q ∨ z ∈ t := by
  induction t with
  | nil => simp [k_ins] at h; exact Or.inl h
  | cons x t ih =>
    simp only [k_ins] at h
    split at h
    · simp at h ⊢; exact h
    · rcases List.mem_cons.mp h with e | e
      · exact Or.inr (List.mem_cons.mpr (Or.inl e))
      · rcases ih e with e | e
        · exact Or.inl e
        · exact Or.inr (List.mem_cons.mpr (Or.inr e))
theorem lv_mono {ls : Array Slot} {n : Nat} {a b : List (Nat × Value)} (h : lv_has ls n a) (hs : ∀ q ∈ b, q ∈ a) : lv_has ls n b := ⟨h.1, h.2.1, fun q hq => h.2.2 q (hs q hq)⟩
theorem k_lm_mem {lv : k_L} {q : Nat × k_V} (h : q ∈ lv) : (q.1, k_v q.2) ∈ k_lm lv := List.mem_map.mpr ⟨q, h, rfl⟩
theorem k_lm_sub {a b : k_L} (h : ∀ q ∈ b, q ∈ a) : ∀ q ∈ k_lm b, q ∈ k_lm a := fun q hq => by
  obtain ⟨x, hx, rfl⟩ := List.mem_map.mp hq
  exact k_lm_mem (h x hx)
theorem k_st1_sub (lv : k_L) (i : Nat) (v : k_V) : ∀ q ∈ k_lm (k_st1 lv i v), q ∈ (i, k_v v) :: (k_lm lv).filter (fun q => !(q.1 == i) && !(q.1 + 1 == i && q.2.category == 2)) := by
  intro q hq
  obtain ⟨x, hx, rfl⟩ := List.mem_map.mp hq
  rcases k_ins_mem hx with e | e
  · subst e; exact List.mem_cons_self
  · obtain ⟨h1, h2⟩ := List.mem_filter.mp e
    refine List.mem_cons_of_mem _ (List.mem_filter.mpr ⟨k_lm_mem h1, ?_⟩)
    simp only [k_v_cat]
    exact h2
theorem k_st2_sub (lv : k_L) (i : Nat) (v : k_V) : ∀ q ∈ k_lm (k_st2 lv i v), q ∈ (i, k_v v) :: (k_lm lv).filter (fun q => !(q.1 == i) && (!(q.1 == i + 1) && !(q.1 + 1 == i && q.2.category == 2))) := by
  intro q hq
  obtain ⟨x, hx, rfl⟩ := List.mem_map.mp hq
  rcases k_ins_mem hx with e | e
  · subst e; exact List.mem_cons_self
  · obtain ⟨h1, h2⟩ := List.mem_filter.mp e
    refine List.mem_cons_of_mem _ (List.mem_filter.mpr ⟨k_lm_mem h1, ?_⟩)
    simp only [k_v_cat]
    exact h2
theorem k_lk {ls : Array Slot} {n i : Nat} {lv : k_L} {v : k_V} (h : lv_has ls n (k_lm lv)) (hl : lv.lookup i = some v) : ls[i]? = some (.val (k_v v)) := by
  have hm : (i, v) ∈ lv := by
    clear h
    induction lv with
    | nil => cases hl
    | cons x t ih =>
      obtain ⟨a, b⟩ := x
      simp only [List.lookup] at hl
      split at hl
      · rename_i hh
        have : i = a := by simpa using hh
        subst this
        cases hl
        exact List.mem_cons_self
      · exact List.mem_cons_of_mem _ (ih hl)
  exact h.2.2 _ (k_lm_mem hm)
end
section
/-! WHAT STAYS TRUE OF THE TABLES at every method's entry -/
abbrev k_AL : String := "java/util/ArrayList"
abbrev k_OA : String := "[Ljava/lang/Object;"
/-- the texts of Keyterrace's exceptions, by their places in its file -/
def k_strs : List (Nat × String) := [(389, "no such transaction"), (404, "that is no key"), (420, "the transaction is over"), (121, "the value is stamped"), (410, "that is no range"), (158, "no such place"), (163, "what is out of range"), (180, "kind is out of range"), (184, "value is out of range"), (412, "that is of the layers below"), (422, "the transaction keeps too many changes"), (208, "all keys at all are not cleared"), (226, "many is out of range"), (228, "version is out of range"), (394, "no such directory"), (414, "name is out of range"), (248, "the name is taken, or there are too many"), (260, "it cannot be moved there"), (262, "the name is taken"), (271, "the directory 0 stays"), (416, "number is out of range"), (418, "field is out of range"), (396, "no such index"), (300, "most is out of range"), (312, "the index is on"), (338, "there are too many watches"), (349, "no such watch"), (398, "no such worker"), (379, "there are too many marks"), (381, "no such mark")]
/-- the private calls between nest mates: own class, place, method, host -/
def k_nests : List (String × Nat × MethodName × String) := [("Keyterrace", 13, ⟨"Keyterrace$Store", "<init>", "()V"⟩, "Keyterrace"), ("Keyterrace$Store", 26, ⟨"Keyterrace$Cell", "<init>", "()V"⟩, "Keyterrace"), ("Keyterrace", 27, ⟨"Keyterrace$Cell", "<init>", "()V"⟩, "Keyterrace"), ("Keyterrace", 71, ⟨"Keyterrace$Transaction", "<init>", "()V"⟩, "Keyterrace"), ("Keyterrace$Store", 133, ⟨"Keyterrace", "withNumber", "(JII)J"⟩, "Keyterrace"), ("Keyterrace$Directory", 25, ⟨"Keyterrace", "lowOf", "(II)J"⟩, "Keyterrace"), ("Keyterrace$Directory", 29, ⟨"Keyterrace", "highOf", "(II)J"⟩, "Keyterrace")]
def k_casts : List (String × String) := [("java/lang/IndexOutOfBoundsException", "java/lang/IndexOutOfBoundsException"), ("java/lang/IllegalArgumentException", "java/lang/IllegalArgumentException"), ("java/lang/IllegalStateException", "java/lang/IllegalStateException"), ("[B", "java/lang/Cloneable"), ("Keyterrace", "java/lang/Object"), ("Keyterrace$Store", "java/lang/Object"), ("java/util/ArrayList", "java/lang/Object"), ("Keyterrace$Cell", "java/lang/Object"), ("Keyterrace$Parting", "java/lang/Object"), ("Keyterrace$Part", "java/lang/Object"), ("Keyterrace$Transaction", "java/lang/Object"), ("Keyterrace$Directory", "java/lang/Object"), ("java/lang/IndexOutOfBoundsException", "java/lang/Object"), ("java/lang/IllegalArgumentException", "java/lang/Object"), ("java/lang/IllegalStateException", "java/lang/Object"), ("Keyterrace$Span", "java/lang/Object"), ("Keyterrace$Change", "java/lang/Object"), ("Keyterrace$Key", "java/lang/Object"), ("java/lang/StringBuilder", "java/lang/Object"), ("java/lang/String", "java/lang/Object"), ("Keyterrace$Entry", "java/lang/Object"), ("Keyterrace$Watch", "java/lang/Object"), ("java/lang/Throwable", "java/lang/Object"), ("[Ljava/lang/Object;", "java/lang/Object"), ("[I", "java/lang/Object"), ("[B", "java/lang/Object")]
def k_ncasts : List (String × String) := [("java/lang/IllegalArgumentException", "java/lang/IndexOutOfBoundsException"), ("java/lang/IllegalStateException", "java/lang/IndexOutOfBoundsException"), ("java/lang/IndexOutOfBoundsException", "java/lang/IllegalArgumentException"), ("java/lang/IllegalStateException", "java/lang/IllegalArgumentException"), ("java/lang/IndexOutOfBoundsException", "java/lang/IllegalStateException"), ("java/lang/IllegalArgumentException", "java/lang/IllegalStateException")]
def k_decls : List MethodName := [⟨"java/lang/RuntimeException", "<init>", "(Ljava/lang/String;)V"⟩, ⟨"java/lang/Exception", "<init>", "(Ljava/lang/String;)V"⟩, ⟨"java/lang/Throwable", "<init>", "(Ljava/lang/String;)V"⟩]
def k_E (G : k_G) (U : State) : Prop := va_K (k_D G) vwCl (k_tys G) U ∧ (∀ q ∈ k_strs, ∃ sa : Nat, vk_R RX11 q.1 q.2 sa U) ∧
  vx_Zq Bundle.tN "UNASSIGNED_STACK" Bundle.steD (fun q => (k_H0 G).size ≤ q) U (k_H0 G) ∧ vx_Zq Bundle.tN "SUPPRESSED_SENTINEL" Bundle.listD (fun q => (k_H0 G).size ≤ q) U (k_H0 G) ∧
  va_Z k_AL "DEFAULTCAPACITY_EMPTY_ELEMENTDATA" k_OA (.ref (k_z0 G)) (fun q => (k_H0 G).size ≤ q) U (k_H0 G) ∧
  va_T (.object "java/lang/Object") (k_z0 G) 0 (fun _ => .null) (fun q => (k_H0 G).size ≤ q) U (k_H0 G) ∧
  (∀ q ∈ k_nests, va_Nw (.methodLinkNest q.1 q.2.1 q.2.2.1 q.2.2.2) U) ∧ (∀ q ∈ k_casts, va_Nw (.castable q.1 q.2) U) ∧ (∀ q ∈ k_ncasts, va_Nc q.1 q.2 U) ∧
  va_X (k_sb G) (k_sL G) (k_sx G) U (k_H0 G) ∧ k_sb G < (k_H0 G).size ∧ va_Dc U ∧ va_Mi k_OA (k_mi G) U ∧ va_AO "java/lang/Object" U ∧ (∀ x ∈ k_decls, va_Nw (.declares x) U)
theorem k_E.warm {G : k_G} {s U : State} (hW : s.WarmedH U.vm) (h : k_E G s) : k_E G U := by
  obtain ⟨h1, h2, h3, h4, h5, h6, h7, h8, h9, h10, h11, h12, h13, h14, h15⟩ := h
  refine ⟨va_K.moved hW.alike h1, fun q hq => ?_, vx_Zq.moved hW.alike h3, vx_Zq.moved hW.alike h4, va_Z.moved hW.alike h5, va_T.moved hW.alike h6, fun q hq => va_Nw.warmM hW (h7 q hq), fun q hq => va_Nw.warmC hW (h8 q hq), fun q hq => va_Nc.moved hW.alike (h9 q hq), va_X.moved hW.alike h10, h11, va_Dc.moved hW.alike h12, va_Mi.moved hW.alike h13, va_AO.moved hW.alike h14, fun x hx => va_Nw.warmD hW (h15 x hx)⟩
  obtain ⟨sa, hs⟩ := h2 q hq
  exact ⟨sa, vk_R.warm hW hs⟩
theorem k_E.blind {G : k_G} {U : State} {g : JFrame} {mk : MethodId} {a : Array Value} (h : k_E G U) : k_E G (U.calling g mk a) := k_E.warm (s := U) (U := U.calling g mk a) (State.WarmedH.refl U) h
/-! CONTRACTS: exactly this heap and this result -/
abbrev k_R : Type := Option k_V ⊕ String
/-- the room of a call of depth d that goes from h to h' -/
def k_rm (d : Nat) (h h' : k_H) : Room := { frames := d, cells := h'.2.1 - h.2.1, slots := h'.2.2 - h.2.2, locals := 40 * d }
def k_Pc (G : k_G) (as : List k_V) (h : k_H) : Array Value → State → Prop := va_Pc (as.map k_v) (fun U => k_hp G h U.heap ∧ k_E G U)
def k_Q (G : k_G) (h' : k_H) (r : k_R) : Array Value → State → Outcome → State → Prop := fun _ _ o t => ∃ v, r = .inl v ∧ o = .returned (v.map k_v) ∧ k_hp G h' t.heap
def k_XC (G : k_G) (h' : k_H) (r : k_R) : String → State → State → Prop := fun E _ t => r = .inr E ∧ k_hp G h' t.heap
/-- method y (its bytes, its locals, its answer's type), of depth d, with the arguments as, from h: it comes to h' with r -/
def k_Ct (G : k_G) (l : Launch) (y : MethodName) (cc : ByteArray) (mL : Nat) (rt : Option FieldType) (d : Nat) (as : List k_V) (h h' : k_H) (r : k_R) : Prop :=
  h.2.1 ≤ h'.2.1 ∧ h.2.2 ≤ h'.2.2 ∧ vx_Met l y (.code y cc mL rt :: k_tbl) (k_rm d h h') (k_Pc G as h) (k_Q G h' r) (k_XC G h' r) (h'.2.1 - h.2.1) (h'.2.2 - h.2.2) (k_we G)
theorem k_blind (G : k_G) (as : List k_V) (h : k_H) : FrameBlind (k_Pc G as h) := fun a U g mk q => ⟨q.1, q.2.1, q.2.2.blind⟩
/-- what a method's body knows of the machine around it -/
def k_Cx (G : k_G) (l : Launch) (y : MethodName) (cc : ByteArray) (mL : Nat) (rt : Option FieldType) (h0 : k_H) (p : Program) (e : Env) (s : State) (m : MethodId) (args : Array Value) (meth : Method) (c : Code) : Prop :=
  p.tables.exec = Jvm.exec ∧ c.code = cc ∧ meth.sig.returnType = rt ∧ c.maxLocals = mL ∧ s.vm.findClass y.cls = some m.cls ∧ (∀ w ∈ k_tbl, w.before args s = true) ∧ meth.locks = false ∧ meth.name = y.name ∧ k_E G s ∧ k_hp G h0 s.heap ∧ l.flags = flags0
/-- the body stands at pc, with these locals and this stack, in the world h: it will come to h' with r -/
def k_J (G : k_G) (l : Launch) (y : MethodName) (cc : ByteArray) (mL : Nat) (rt : Option FieldType) (d : Nat) (h0 : k_H) (h : k_H) (pc : Nat) (lv : k_L) (st : List k_V) (h' : k_H) (r : k_R) : Prop :=
  h.2.1 ≤ h'.2.1 ∧ h.2.2 ≤ h'.2.2 ∧ ∀ (p : Program) (e : Env) (s : State) (m : MethodId) (args : Array Value) (below : List Frame) (meth : Method) (c : Code), k_Cx G l y cc mL rt h0 p e s m args meth c → (∀ x ∈ c.exceptionTable.toList, False) →
    ∀ (H : Heap) (locs : List Loc) (k n : Nat) (ls : Array Slot), k_hp G h H → (∀ q ∈ locs, k_we G q.base) → k + h0.2.1 = h.2.1 → n + h0.2.2 = h.2.2 → lv_has ls mL (k_lm lv) →
      W p l e (k_rm d h0 h') s m args below meth c H locs k n (vx_MQ below (k_Q G h' r) (k_XC G h' r) args s (h'.2.1 - h0.2.1) (h'.2.2 - h0.2.2) (k_we G)) (F0 m pc ls (st.map k_v))
end
