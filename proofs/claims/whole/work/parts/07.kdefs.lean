/-! THE PURE WORLD: cells by address, and what it means that a machine's heap holds them -/
/-- a value: an int, a long, a reference or null -/
abbrev k_V : Type := Int32 ⊕ (Int64 ⊕ Option Nat)
abbrev vI (x : Int32) : k_V := .inl x
abbrev vJ (x : Int64) : k_V := .inr (.inl x)
abbrev vR (r : Option Nat) : k_V := .inr (.inr r)
def k_v : k_V → Value
  | .inl x => .int x
  | .inr (.inl x) => .long x
  | .inr (.inr none) => .null
  | .inr (.inr (some a)) => .ref a
def k_cat : k_V → Nat
  | .inl _ => 1
  | .inr (.inl _) => 2
  | .inr (.inr _) => 1
theorem k_v_cat (v : k_V) : (k_v v).category = k_cat v := by
  rcases v with x | x | _ | a <;> rfl
theorem k_v_rf (r : Option Nat) : k_v (vR r) = va_rf r := by cases r <;> rfl
/-- a pure cell: an object (place of its class in vwCl, fields), a row of ints, of longs, of booleans, a list (its references, its capacity), a row of references -/
abbrev k_C : Type := (Nat × List k_V) ⊕ ((Nat × (Nat → Int32)) ⊕ ((Nat × (Nat → Int64)) ⊕ ((Nat × (Nat → Int32)) ⊕ ((List Nat × Nat) ⊕ (Nat × (Nat → Option Nat))))))
abbrev k_o (ci : Nat) (fs : List k_V) : k_C := .inl (ci, fs)
abbrev k_i (n : Nat) (f : Nat → Int32) : k_C := .inr (.inl (n, f))
abbrev k_j (n : Nat) (f : Nat → Int64) : k_C := .inr (.inr (.inl (n, f)))
abbrev k_z (n : Nat) (f : Nat → Int32) : k_C := .inr (.inr (.inr (.inl (n, f))))
abbrev k_l (xs : List Nat) (cap : Nat) : k_C := .inr (.inr (.inr (.inr (.inl (xs, cap)))))
abbrev k_q (n : Nat) (f : Nat → Option Nat) : k_C := .inr (.inr (.inr (.inr (.inr (n, f)))))
/-- the pure heap: cells, how many addresses are used, how many slots were made -/
abbrev k_H : Type := (Nat → Option k_C) × Nat × Nat
/-- what is fixed: class numbers and slots; the array classes of int, long, boolean, Object; the heap at the start, and which cells behind it are foreign; the empty row of ArrayList; the script -/
abbrev k_G : Type := va_G × (ClassId × ClassId × ClassId × ClassId) × (Heap × Nat × Nat) × (Nat × Nat) × (Nat × Nat × (Nat → Int32))
abbrev k_D (G : k_G) : va_G := G.1
abbrev k_cI (G : k_G) : ClassId := G.2.1.1
abbrev k_cJ (G : k_G) : ClassId := G.2.1.2.1
abbrev k_cZ (G : k_G) : ClassId := G.2.1.2.2.1
abbrev k_cQ (G : k_G) : ClassId := G.2.1.2.2.2
abbrev k_H0 (G : k_G) : Heap := G.2.2.1.1
/-- the cells from k_fl to before k_fh are foreign: they belong to nobody of this world, and stay -/
abbrev k_fl (G : k_G) : Nat := G.2.2.1.2.1
abbrev k_fh (G : k_G) : Nat := G.2.2.1.2.2
def k_we (G : k_G) (q : Nat) : Prop := (k_H0 G).size ≤ q ∧ (q < k_fl G ∨ k_fh G ≤ q)
abbrev k_z0 (G : k_G) : Nat := G.2.2.2.1.1
abbrev k_mi (G : k_G) : Nat := G.2.2.2.1.2
abbrev k_sb (G : k_G) : Nat := G.2.2.2.2.1
abbrev k_sL (G : k_G) : Nat := G.2.2.2.2.2.1
abbrev k_sx (G : k_G) : Nat → Int32 := G.2.2.2.2.2.2
abbrev k_tys (G : k_G) : List (ClassId × FieldType) := [(k_cI G, .int), (k_cJ G, .long), (k_cZ G, .boolean), (k_cQ G, .object "java/lang/Object")]
/-- a pure cell c at a, by the machine's cells F; ow: whose a list's row is -/
def k_den (G : k_G) (m : Nat → Option k_C) (F : Nat → Option va_E) (ow : Nat → Nat) (a : Nat) : k_C → Prop
  | .inl (ci, fs) => F a = some (.inr (ci, fs.map k_v))
  | .inr (.inl (n, f)) => F a = some (.inl (k_cI G, n, .inl f))
  | .inr (.inr (.inl (n, f))) => F a = some (.inl (k_cJ G, n, .inr (.inl f)))
  | .inr (.inr (.inr (.inl (n, f)))) => F a = some (.inl (k_cZ G, n, .inl f))
  | .inr (.inr (.inr (.inr (.inr (n, f))))) => F a = some (.inl (k_cQ G, n, .inr (.inr (.inr (.inr f)))))
  | .inr (.inr (.inr (.inr (.inl (xs, cap))))) => ∃ (md : Int32) (t : Nat), F a = some (.inr (2, [.int md, .ref t, .int (nI xs.length)])) ∧ xs.length ≤ cap ∧ cap < 2 ^ 30 ∧
      ((cap = 0 ∧ t = k_z0 G) ∨ (0 < cap ∧ m t = none ∧ ow t = a ∧ ∃ f : Nat → Option Nat, F t = some (.inl (k_cQ G, cap, .inr (.inr (.inr (.inr f))))) ∧ ∀ i : Nat, i < xs.length → f i = xs[i]?))
/-- the machine's heap H holds the pure heap h -/
def k_hp (G : k_G) (h : k_H) (H : Heap) : Prop := H.size = h.2.1 ∧ ((k_H0 G).size ≤ H.size ∧ k_fh G ≤ H.size) ∧ (∀ q : Nat, q < (k_H0 G).size → H[q]? = (k_H0 G)[q]?) ∧
  ∃ (F : Nat → Option va_E) (ow : Nat → Nat), (∀ (q : Nat) (e : va_E), F q = some e → k_we G q ∧ va_at (k_D G) vwCl (q, e) H) ∧ ∀ (a : Nat) (c : k_C), h.1 a = some c → k_den G h.1 F ow a c
/-- a cell of the world is changed or made -/
def k_up (h : k_H) (a : Nat) (c : k_C) : k_H := (fun q => if q = a then some c else h.1 q, h.2.1, h.2.2)
/-- a new cell, of n slots -/
def k_nw (h : k_H) (n : Nat) (c : k_C) : k_H := (fun q => if q = h.2.1 then some c else h.1 q, h.2.1 + 1, h.2.2 + n)
/-- cells that nobody reads any more: k cells of n slots -/
def k_sk (h : k_H) (k n : Nat) : k_H := (h.1, h.2.1 + k, h.2.2 + n)
abbrev k_bl (x : Int32) : Prop := x = 0 ∨ x = 1
theorem k_P1 {D : va_G} {cl : List vw_C} {q : Nat × va_E} {H : Heap} (h : va_at D cl q H) : va_P D cl [q] H := by
  intro k x hx
  match k, hx with
  | 0, hx => cases hx; exact h
theorem k_up_self (h : k_H) (a : Nat) (c : k_C) : (k_up h a c).1 a = some c := by simp [k_up]
theorem k_up_ne (h : k_H) {a b : Nat} (c : k_C) (e : b ≠ a) : (k_up h a c).1 b = h.1 b := by simp [k_up, e]
theorem k_nw_self (h : k_H) (n : Nat) (c : k_C) : (k_nw h n c).1 h.2.1 = some c := by simp [k_nw]
theorem k_nw_ne (h : k_H) (n : Nat) {b : Nat} (c : k_C) (e : b ≠ h.2.1) : (k_nw h n c).1 b = h.1 b := by simp [k_nw, e]
/-- the words that stay: of every method of the world -/
def k_tbl : List Cond := lw_tbl.filter goodWord
theorem k_in {w : Cond} (i : Nat) (h : lw_tbl[i]? = some w) (g : goodWord w = true) : w ∈ k_tbl := List.mem_filter.mpr ⟨List.mem_of_getElem? h, g⟩
theorem k_good_tbl : ∀ w ∈ k_tbl, (w.onTables && w.keeps) = true ∨ ∃ ty, w = .arrayClass ty := fun w h => good_of_word (List.mem_filter.mp h).2
theorem k_goodIn {c y : Cond} (h : y ∈ k_tbl) : GoodIn (c :: k_tbl) (y :: k_tbl) := fun w hw => by
  rcases List.mem_cons.mp hw with e | e
  · subst e; exact ⟨List.mem_cons_of_mem _ h, k_good_tbl _ h⟩
  · exact ⟨List.mem_cons_of_mem _ e, k_good_tbl _ e⟩
theorem k_goodIn1 {c w : Cond} (h : w ∈ k_tbl) : w ∈ c :: k_tbl ∧ ((w.onTables && w.keeps) = true ∨ ∃ ty, w = .arrayClass ty) := ⟨List.mem_cons_of_mem _ h, k_good_tbl _ h⟩
theorem k_goodV {c y : Cond} {own C : String} {idx : Nat} {x : MethodName} (h : y ∈ k_tbl) (h1 : Cond.methodLink own idx x ∈ k_tbl) (h2 : Cond.instanceMethod x ∈ k_tbl) (h3 : Cond.selects C x x ∈ k_tbl) (h4 : Cond.initialized C ∈ k_tbl) : GoodIn (c :: k_tbl) (wsV own idx C x (y :: k_tbl)) := by
  intro w hw
  unfold wsV at hw
  rcases List.mem_append.mp hw with e | e
  · simp only [List.mem_cons, List.not_mem_nil, or_false] at e
    rcases e with rfl | rfl | rfl | rfl
    · exact k_goodIn1 h1
    · exact k_goodIn1 h2
    · exact k_goodIn1 h3
    · exact k_goodIn1 h4
  · exact k_goodIn h w e
/-- the locals, in the order of their places -/
abbrev k_L : Type := List (Nat × k_V)
def k_lm (lv : k_L) : List (Nat × Value) := lv.map (fun q => (q.1, k_v q.2))
def k_ins (q : Nat × k_V) : k_L → k_L
  | [] => [q]
  | x :: t => if q.1 < x.1 then q :: x :: t else x :: k_ins q t
def k_st1 (lv : k_L) (i : Nat) (v : k_V) : k_L := k_ins (i, v) (lv.filter (fun q => !(q.1 == i) && !(q.1 + 1 == i && k_cat q.2 == 2)))
def k_st2 (lv : k_L) (i : Nat) (v : k_V) : k_L := k_ins (i, v) (lv.filter (fun q => !(q.1 == i) && (!(q.1 == i + 1) && !(q.1 + 1 == i && k_cat q.2 == 2))))
theorem k_ins_mem {q z : Nat × k_V} {t : k_L} (h : z ∈ k_ins q t) : z = q ∨ z ∈ t := by
  induction t with
  | nil => simp [k_ins] at h; exact Or.inl h
  | cons x t ih =>
    simp only [k_ins] at h
    split at h
    · simp at h ⊢; exact h
    · rcases List.mem_cons.mp h with e | e
      · exact Or.inr (List.mem_cons.mpr (Or.inl e))
      · rcases ih e with e | e
        · exact Or.inl e
        · exact Or.inr (List.mem_cons.mpr (Or.inr e))
theorem lv_mono {ls : Array Slot} {n : Nat} {a b : List (Nat × Value)} (h : lv_has ls n a) (hs : ∀ q ∈ b, q ∈ a) : lv_has ls n b := ⟨h.1, h.2.1, fun q hq => h.2.2 q (hs q hq)⟩
theorem k_lm_mem {lv : k_L} {q : Nat × k_V} (h : q ∈ lv) : (q.1, k_v q.2) ∈ k_lm lv := List.mem_map.mpr ⟨q, h, rfl⟩
theorem k_lm_sub {a b : k_L} (h : ∀ q ∈ b, q ∈ a) : ∀ q ∈ k_lm b, q ∈ k_lm a := fun q hq => by
  obtain ⟨x, hx, rfl⟩ := List.mem_map.mp hq
  exact k_lm_mem (h x hx)
theorem k_st1_sub (lv : k_L) (i : Nat) (v : k_V) : ∀ q ∈ k_lm (k_st1 lv i v), q ∈ (i, k_v v) :: (k_lm lv).filter (fun q => !(q.1 == i) && !(q.1 + 1 == i && q.2.category == 2)) := by
  intro q hq
  obtain ⟨x, hx, rfl⟩ := List.mem_map.mp hq
  rcases k_ins_mem hx with e | e
  · subst e; exact List.mem_cons_self
  · obtain ⟨h1, h2⟩ := List.mem_filter.mp e
    refine List.mem_cons_of_mem _ (List.mem_filter.mpr ⟨k_lm_mem h1, ?_⟩)
    simp only [k_v_cat]
    exact h2
theorem k_st2_sub (lv : k_L) (i : Nat) (v : k_V) : ∀ q ∈ k_lm (k_st2 lv i v), q ∈ (i, k_v v) :: (k_lm lv).filter (fun q => !(q.1 == i) && (!(q.1 == i + 1) && !(q.1 + 1 == i && q.2.category == 2))) := by
  intro q hq
  obtain ⟨x, hx, rfl⟩ := List.mem_map.mp hq
  rcases k_ins_mem hx with e | e
  · subst e; exact List.mem_cons_self
  · obtain ⟨h1, h2⟩ := List.mem_filter.mp e
    refine List.mem_cons_of_mem _ (List.mem_filter.mpr ⟨k_lm_mem h1, ?_⟩)
    simp only [k_v_cat]
    exact h2
theorem k_lk {ls : Array Slot} {n i : Nat} {lv : k_L} {v : k_V} (h : lv_has ls n (k_lm lv)) (hl : lv.lookup i = some v) : ls[i]? = some (.val (k_v v)) := by
  have hm : (i, v) ∈ lv := by
    clear h
    induction lv with
    | nil => cases hl
    | cons x t ih =>
      obtain ⟨a, b⟩ := x
      simp only [List.lookup] at hl
      split at hl
      · rename_i hh
        have : i = a := by simpa using hh
        subst this
        cases hl
        exact List.mem_cons_self
      · exact List.mem_cons_of_mem _ (ih hl)
  exact h.2.2 _ (k_lm_mem hm)
