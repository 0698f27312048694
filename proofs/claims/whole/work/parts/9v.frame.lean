/-! FOREIGN CELLS: a contract over h holds over h and foreign cells, too, and these stay -/
def k_fG (G : k_G) (lo hi : Nat) : k_G := (G.1, G.2.1, (G.2.2.1.1, lo, hi), G.2.2.2)
def k_cn (lo hi : Nat) (h : k_H) : Prop := ∀ q, lo ≤ q → q < hi → h.1 q = none
def k_jn (lo hi : Nat) (f : Nat → k_C) (h : k_H) : k_H := (fun q => if lo ≤ q ∧ q < hi then some (f q) else h.1 q, h.2)
theorem jn_in {lo hi q : Nat} {f : Nat → k_C} {h : k_H} (a : lo ≤ q) (b : q < hi) : (k_jn lo hi f h).1 q = some (f q) := if_pos ⟨a, b⟩
theorem jn_out {lo hi q : Nat} {f : Nat → k_C} {h : k_H} (a : ¬ (lo ≤ q ∧ q < hi)) : (k_jn lo hi f h).1 q = h.1 q := if_neg a
theorem k_fG_ok {G : k_G} {l : Launch} {lo hi : Nat} (ok : k_ok G l) : k_ok (k_fG G lo hi) l := ok
theorem hp_to {G : k_G} {lo hi : Nat} {f : Nat → k_C} {h : k_H} {H : Heap} (hc : k_cn lo hi h) (hh : hi ≤ h.2.1) (hp : k_hp G (k_jn lo hi f h) H) : k_hp (k_fG G lo hi) h H := by
  obtain ⟨p1, p2, p3, F, ow, h1, h2⟩ := hp
  have p1' : H.size = h.2.1 := p1
  have nf : ∀ q c, h.1 q = some c → ¬ (lo ≤ q ∧ q < hi) := fun q c e z => by rw [hc q z.1 z.2] at e; cases e
  refine ⟨p1', ⟨p2.1, by show hi ≤ H.size; omega⟩, p3, fun q => if lo ≤ q ∧ q < hi then none else F q, ow, fun q e he => ?_, fun a c ha => ?_⟩
  · by_cases z : lo ≤ q ∧ q < hi
    · simp only [z, and_self, if_true] at he
      cases he
    · simp only [if_neg z] at he
      obtain ⟨k1, k2⟩ := h1 _ _ he
      refine ⟨⟨k1.1, ?_⟩, k2⟩
      show q < lo ∨ hi ≤ q
      omega
  · have nz := nf _ _ ha
    have h3 := h2 a c (by rw [jn_out nz]; exact ha)
    have kF : ∀ z, ¬ (lo ≤ z ∧ z < hi) → (if lo ≤ z ∧ z < hi then none else F z) = F z := fun z hz => if_neg hz
    rcases c with ⟨ci, fs⟩ | ⟨n, f9⟩ | ⟨n, f9⟩ | ⟨n, f9⟩ | ⟨xs, cap⟩ | ⟨n, f9⟩
    rotate_right
    · exact (kF a nz).trans h3
    · exact (kF a nz).trans h3
    · exact (kF a nz).trans h3
    · exact (kF a nz).trans h3
    · exact (kF a nz).trans h3
    · obtain ⟨md, t, g1, g2, g3, g4⟩ := h3
      refine ⟨md, t, (kF a nz).trans g1, g2, g3, ?_⟩
      rcases g4 with ⟨g5, g6⟩ | ⟨g5, g6, g7, f9, g8, g9⟩
      · exact Or.inl ⟨g5, g6⟩
      · have nt : ¬ (lo ≤ t ∧ t < hi) := fun z => by rw [jn_in z.1 z.2] at g6; cases g6
        exact Or.inr ⟨g5, by rw [← jn_out (f := f) (h := h) nt]; exact g6, g7, f9, (kF t nt).trans g8, g9⟩
theorem hp_fro {G : k_G} {lo hi : Nat} {f : Nat → k_C} {h h' : k_H} {H H1 : Heap} (g0 : k_fh G = 0) (hl : ∀ q xs cap, f q ≠ k_l xs cap) (hp : k_hp G (k_jn lo hi f h) H) (hp1 : k_hp (k_fG G lo hi) h' H1) (hk : ∀ q, lo ≤ q → q < hi → H1[q]? = H[q]?) : k_hp G (k_jn lo hi f h') H1 := by
  obtain ⟨p1, p2, p3, F, ow, h1, h2⟩ := hp
  obtain ⟨q1, q2, q3, F1, ow1, i1, i2⟩ := hp1
  have wo : ∀ q, k_we (k_fG G lo hi) q → ¬ (lo ≤ q ∧ q < hi) := fun q z z2 => by
    have z3 : q < lo ∨ hi ≤ q := z.2
    omega
  have kI : ∀ z, (lo ≤ z ∧ z < hi) → (if lo ≤ z ∧ z < hi then F z else F1 z) = F z := fun z hz => if_pos hz
  have kO : ∀ z, ¬ (lo ≤ z ∧ z < hi) → (if lo ≤ z ∧ z < hi then F z else F1 z) = F1 z := fun z hz => if_neg hz
  refine ⟨q1, ⟨q2.1, by rw [g0]; exact Nat.zero_le _⟩, q3, fun q => if lo ≤ q ∧ q < hi then F q else F1 q, ow1, fun q e he => ?_, fun a c ha => ?_⟩
  · by_cases z : lo ≤ q ∧ q < hi
    · replace he := (kI q z).symm.trans he
      exact ⟨(h1 _ _ he).1, (h1 _ _ he).2.kept (hk q z.1 z.2)⟩
    · replace he := (kO q z).symm.trans he
      obtain ⟨k1, k2⟩ := i1 _ _ he
      exact ⟨⟨k1.1, Or.inr (by rw [g0]; exact Nat.zero_le _)⟩, k2⟩
  · by_cases z : lo ≤ a ∧ a < hi
    · have e0 : c = f a := by rw [jn_in z.1 z.2] at ha; exact (Option.some.inj ha).symm
      have h3 := h2 a c (by rw [jn_in z.1 z.2, e0])
      have hl9 := hl a
      rw [← e0] at hl9
      rcases c with ⟨ci, fs⟩ | ⟨n, f9⟩ | ⟨n, f9⟩ | ⟨n, f9⟩ | ⟨xs, cap⟩ | ⟨n, f9⟩
      · exact (kI a z).trans h3
      · exact (kI a z).trans h3
      · exact (kI a z).trans h3
      · exact (kI a z).trans h3
      · exact absurd rfl (hl9 xs cap)
      · exact (kI a z).trans h3
    · rw [jn_out z] at ha
      have h3 := i2 a c ha
      rcases c with ⟨ci, fs⟩ | ⟨n, f9⟩ | ⟨n, f9⟩ | ⟨n, f9⟩ | ⟨xs, cap⟩ | ⟨n, f9⟩
      rotate_right
      · exact (kO a z).trans h3
      · exact (kO a z).trans h3
      · exact (kO a z).trans h3
      · exact (kO a z).trans h3
      · exact (kO a z).trans h3
      · obtain ⟨md, t, g1, g2, g3, g4⟩ := h3
        refine ⟨md, t, (kO a z).trans g1, g2, g3, ?_⟩
        rcases g4 with ⟨g5, g6⟩ | ⟨g5, g6, g7, f9, g8, g9⟩
        · exact Or.inl ⟨g5, g6⟩
        · have nt := wo t (i1 _ _ g8).1
          exact Or.inr ⟨g5, by rw [jn_out nt]; exact g6, g7, f9, (kO t nt).trans g8, g9⟩
theorem hp_cln {G : k_G} {lo hi : Nat} {h : k_H} {H : Heap} (hp : k_hp (k_fG G lo hi) h H) : k_cn lo hi h := by
  intro q z1 z2
  cases e : h.1 q with
  | none => rfl
  | some c =>
    exfalso
    obtain ⟨p1, p2, p3, F, ow, h1, h2⟩ := hp
    have key : ∀ e9, F q = some e9 → False := fun e9 he => by
      have z3 : q < lo ∨ hi ≤ q := (h1 _ _ he).1.2
      omega
    have h3 := h2 q c e
    rcases c with ⟨ci, fs⟩ | ⟨n, f9⟩ | ⟨n, f9⟩ | ⟨n, f9⟩ | ⟨xs, cap⟩ | ⟨n, f9⟩
    rotate_right
    · exact key _ h3
    · exact key _ h3
    · exact key _ h3
    · exact key _ h3
    · exact key _ h3
    · obtain ⟨md, t, g1, -⟩ := h3
      exact key _ g1
/-- a heap that no machine holds -/
def k_no (h : k_H) : k_H := (fun _ => some (k_l [] (2 ^ 30)), h.2)
theorem no_hp {G : k_G} {h : k_H} {H : Heap} (hp : k_hp G (k_no h) H) : False := by
  obtain ⟨-, -, -, F, ow, h1, h2⟩ := hp
  obtain ⟨md, t, -, -, g3, -⟩ := h2 0 _ rfl
  omega
section KFR
variable {G : k_G} {l : Launch} {y : MethodName} {cc : ByteArray} {mL : Nat} {rt : Option FieldType} {d : Nat} {as : List k_V} {h h' : k_H} {r : k_R} {lo hi : Nat} {f : Nat → k_C}
theorem k_fro1 {m2 : Nat → Option k_C} (hc : k_cn lo hi h) (hh : hi ≤ h.2.1) (C : k_Ct (k_fG G lo hi) l y cc mL rt d as h h' r) (g0 : k_fh G = 0)
    (hpo : ∀ H H1, k_hp G (k_jn lo hi f h) H → k_hp (k_fG G lo hi) h' H1 → (∀ q, lo ≤ q → q < hi → H1[q]? = H[q]?) → k_hp G (m2, h'.2) H1) : k_Ct G l y cc mL rt d as (k_jn lo hi f h) (m2, h'.2) r := by
  have we : ∀ q, k_we (k_fG G lo hi) q → k_we G q := fun q z => ⟨z.1, Or.inr (by rw [g0]; exact Nat.zero_le _)⟩
  have fr : ∀ (s t : State) (L : List Loc) (mc ms : Nat), k_hp G (k_jn lo hi f h) s.heap → s.sameButNew ({ t with vm := s.vm } : State) L mc ms → (∀ z ∈ L, k_we (k_fG G lo hi) z.base) → ∀ q, lo ≤ q → q < hi → t.heap[q]? = s.heap[q]? := fun s t L mc ms hp hs hL q z1 z2 => by
    refine (vx_frame hs).2 q ?_ (fun z hz e => ?_)
    · have e : s.heap.size = h.2.1 := hp.1
      exact Nat.lt_of_lt_of_le (Nat.lt_of_lt_of_le z2 hh) (Nat.le_of_eq e.symm)
    · have z3 : q < lo ∨ hi ≤ q := by rw [← e]; exact (hL z hz).2
      omega
  refine ⟨C.1, C.2.1, ?_⟩
  refine MetFree.mono C.2.2 (fun a s hp => ⟨hp.1, hp_to hc hh hp.2.1, hp.2.2⟩) (fun _ _ _ _ _ h => h) (fun a s o t hP hq => ?_)
  rcases hq with ⟨⟨v, e1, e2, e3⟩, L, hF, hL⟩ | ⟨q, e1, E, ce, L, ⟨e2, e3⟩, e4, e5, e6, e7, e8, hL⟩
  · exact Or.inl ⟨⟨v, e1, e2, hpo _ _ hP.2.1 e3 (fr s t L _ _ hP.2.1 hF.2.2 hL)⟩, L, hF, fun z hz => we _ (hL z hz)⟩
  · exact Or.inr ⟨q, e1, E, ce, L, ⟨e2, hpo _ _ hP.2.1 e3 (fr s t L _ _ hP.2.1 e8 hL)⟩, e4, e5, e6, e7, e8, fun z hz => we _ (hL z hz)⟩
/-- THE FRAME: behind the call the foreign cells are as they were; or no machine comes there -/
theorem k_fro (g0 : k_fh G = 0) (hl : ∀ q xs cap, f q ≠ k_l xs cap) (hc : k_cn lo hi h) (hh : hi ≤ h.2.1) (C : k_Ct (k_fG G lo hi) l y cc mL rt d as h h' r) :
    (k_cn lo hi h' ∧ k_Ct G l y cc mL rt d as (k_jn lo hi f h) (k_jn lo hi f h') r) ∨ k_Ct G l y cc mL rt d as (k_jn lo hi f h) (k_no h') r := by
  by_cases z : k_cn lo hi h'
  · exact Or.inl ⟨z, k_fro1 hc hh C g0 (fun H H1 a b e => hp_fro g0 hl a b e)⟩
  · exact Or.inr (k_fro1 hc hh C g0 (fun H H1 a b e => absurd (hp_cln b) z))
end KFR
