/-! THE RAW WORLD OF THE REFERENCE: its object at b, its rows at b + 1 .. b + 36; numbers by field, rows by place -/
abbrev m_S : Type := (Nat → Int32) × ((Nat → Nat → Int32) × (Nat → Nat → Int64))
def m_kn : Nat → Nat × Nat := fun i => match i with
  | 1 => (1, 12000)
  | 2 => (0, 12000)
  | 3 => (0, 420000)
  | 4 => (0, 420000)
  | 5 => (2, 420000)
  | 6 => (0, 420000)
  | 7 => (0, 8192)
  | 8 => (1, 8192)
  | 9 => (1, 8192)
  | 10 => (2, 4)
  | 11 => (2, 4)
  | 12 => (0, 4)
  | 13 => (0, 4)
  | 14 => (0, 4)
  | 15 => (0, 4)
  | 16 => (0, 16384)
  | 17 => (1, 16384)
  | 18 => (1, 16384)
  | 19 => (0, 16384)
  | 20 => (0, 16384)
  | 21 => (0, 4)
  | 22 => (1, 8192)
  | 23 => (1, 8192)
  | 24 => (0, 8192)
  | 25 => (0, 1024)
  | 26 => (0, 1024)
  | 27 => (0, 1024)
  | 28 => (2, 1024)
  | 29 => (2, 1024)
  | 30 => (1, 20)
  | 31 => (0, 20)
  | 32 => (2, 20)
  | 33 => (0, 20)
  | 34 => (0, 10)
  | 35 => (1, 4096)
  | 36 => (0, 4096)
  | _ => (3, 0)
def m_fs (b : Nat) (s : m_S) : List k_V := [vI (s.1 0), vI (s.1 1), vI (s.1 2), vR (some (b + 1)), vR (some (b + 2)), vI (s.1 5), vR (some (b + 3)), vR (some (b + 4)), vR (some (b + 5)), vR (some (b + 6)), vI (s.1 10), vR (some (b + 7)), vR (some (b + 8)), vR (some (b + 9)), vR (some (b + 10)), vR (some (b + 11)), vR (some (b + 12)), vR (some (b + 13)), vR (some (b + 14)), vI (s.1 19), vR (some (b + 15)), vR (some (b + 16)), vR (some (b + 17)), vR (some (b + 18)), vR (some (b + 19)), vR (some (b + 20)), vR (some (b + 21)), vR (some (b + 22)), vR (some (b + 23)), vR (some (b + 24)), vI (s.1 30), vI (s.1 31), vI (s.1 32), vI (s.1 33), vI (s.1 34), vI (s.1 35), vI (s.1 36), vR (some (b + 25)), vR (some (b + 26)), vR (some (b + 27)), vR (some (b + 28)), vR (some (b + 29)), vI (s.1 42), vR (some (b + 30)), vR (some (b + 31)), vR (some (b + 32)), vR (some (b + 33)), vI (s.1 47), vR (some (b + 34)), vI (s.1 49), vR (some (b + 35)), vR (some (b + 36)), vI (s.1 52)]
def m_cl (b : Nat) (s : m_S) (i : Nat) : k_C := if i = 0 then k_o 15 (m_fs b s) else match (m_kn i).1 with
  | 0 => k_i (m_kn i).2 (s.2.1 i)
  | 1 => k_j (m_kn i).2 (s.2.2 i)
  | _ => k_z (m_kn i).2 (s.2.1 i)
def m_hp (b : Nat) (s : m_S) (h : k_H) : k_H := (fun q => if b ≤ q ∧ q < b + 37 then some (m_cl b s (q - b)) else h.1 q, h.2)
def m_si (s : m_S) (k : Nat) (x : Int32) : m_S := (fun q => if q = k then x else s.1 q, s.2)
def m_sa (s : m_S) (i : Nat) (f : Nat → Int32) : m_S := (s.1, (fun q => if q = i then f else s.2.1 q, s.2.2))
def m_sj (s : m_S) (i : Nat) (f : Nat → Int64) : m_S := (s.1, (s.2.1, fun q => if q = i then f else s.2.2 q))
theorem m_si_1 (s : m_S) (k : Nat) (x : Int32) (q : Nat) : (m_si s k x).1 q = if q = k then x else s.1 q := rfl
theorem m_si_2 (s : m_S) (k : Nat) (x : Int32) : (m_si s k x).2 = s.2 := rfl
theorem m_sa_1 (s : m_S) (i : Nat) (f : Nat → Int32) : (m_sa s i f).1 = s.1 := rfl
theorem m_sa_2 (s : m_S) (i : Nat) (f : Nat → Int32) (q : Nat) : (m_sa s i f).2.1 q = if q = i then f else s.2.1 q := rfl
theorem m_sa_3 (s : m_S) (i : Nat) (f : Nat → Int32) : (m_sa s i f).2.2 = s.2.2 := rfl
theorem m_sj_1 (s : m_S) (i : Nat) (f : Nat → Int64) : (m_sj s i f).1 = s.1 := rfl
theorem m_sj_2 (s : m_S) (i : Nat) (f : Nat → Int64) : (m_sj s i f).2.1 = s.2.1 := rfl
theorem m_sj_3 (s : m_S) (i : Nat) (f : Nat → Int64) (q : Nat) : (m_sj s i f).2.2 q = if q = i then f else s.2.2 q := rfl
theorem m_at (b : Nat) (s : m_S) (h : k_H) {i : Nat} (hi : i < 37) : (m_hp b s h).1 (b + i) = some (m_cl b s i) := by
  show (if b ≤ b + i ∧ b + i < b + 37 then some (m_cl b s (b + i - b)) else h.1 (b + i)) = _
  rw [if_pos ⟨by omega, by omega⟩, Nat.add_sub_cancel_left]
theorem m_o (b : Nat) (s : m_S) (h : k_H) : (m_hp b s h).1 b = some (k_o 15 (m_fs b s)) := m_at b s h (i := 0) (by omega)
theorem m_is (b : Nat) (s : m_S) (h : k_H) : k_is (m_hp b s h) b 15 := k_is_o (m_o b s h)
theorem m_ri {b : Nat} {s : m_S} {h : k_H} {i n : Nat} (hk : m_kn i = (0, n)) (hi : i < 37) (h0 : ¬ i = 0) : (m_hp b s h).1 (b + i) = some (k_i n (s.2.1 i)) := by
  rw [m_at b s h hi]; unfold m_cl; rw [if_neg h0, hk]; rfl
theorem m_rj {b : Nat} {s : m_S} {h : k_H} {i n : Nat} (hk : m_kn i = (1, n)) (hi : i < 37) (h0 : ¬ i = 0) : (m_hp b s h).1 (b + i) = some (k_j n (s.2.2 i)) := by
  rw [m_at b s h hi]; unfold m_cl; rw [if_neg h0, hk]; rfl
theorem m_rz {b : Nat} {s : m_S} {h : k_H} {i n : Nat} (hk : m_kn i = (2, n)) (hi : i < 37) (h0 : ¬ i = 0) : (m_hp b s h).1 (b + i) = some (k_z n (s.2.1 i)) := by
  rw [m_at b s h hi]; unfold m_cl; rw [if_neg h0, hk]; rfl
theorem m_up {b : Nat} {s s' : m_S} {h : k_H} {i : Nat} {c : k_C} (hi : i < 37) (he : m_cl b s' i = c) (hne : ∀ j, j ≠ i → m_cl b s' j = m_cl b s j) : k_up (m_hp b s h) (b + i) c = m_hp b s' h := by
  unfold k_up m_hp
  refine Prod.ext (funext fun q => ?_) rfl
  show (if q = b + i then some c else if b ≤ q ∧ q < b + 37 then some (m_cl b s (q - b)) else h.1 q) = if b ≤ q ∧ q < b + 37 then some (m_cl b s' (q - b)) else h.1 q
  by_cases e : q = b + i
  · subst e
    rw [if_pos rfl, if_pos ⟨by omega, by omega⟩, Nat.add_sub_cancel_left, he]
  · rw [if_neg e]
    by_cases r : b ≤ q ∧ q < b + 37
    · rw [if_pos r, if_pos r, hne (q - b) (by omega)]
    · rw [if_neg r, if_neg r]
theorem m_ui {b : Nat} {s : m_S} {h : k_H} {i n : Nat} {f : Nat → Int32} (hk : m_kn i = (0, n)) (hi : i < 37) (h0 : ¬ i = 0) : k_up (m_hp b s h) (b + i) (k_i n f) = m_hp b (m_sa s i f) h :=
  m_up hi (by unfold m_cl; rw [if_neg h0, hk]; show k_i n (if i = i then f else s.2.1 i) = _; rw [if_pos rfl]) (fun j hj => by
    unfold m_cl
    show (if j = 0 then k_o 15 (m_fs b s) else _) = _
    rw [m_sa_2, if_neg hj, m_sa_3])
theorem m_uz {b : Nat} {s : m_S} {h : k_H} {i n : Nat} {f : Nat → Int32} (hk : m_kn i = (2, n)) (hi : i < 37) (h0 : ¬ i = 0) : k_up (m_hp b s h) (b + i) (k_z n f) = m_hp b (m_sa s i f) h :=
  m_up hi (by unfold m_cl; rw [if_neg h0, hk]; show k_z n (if i = i then f else s.2.1 i) = _; rw [if_pos rfl]) (fun j hj => by
    unfold m_cl
    show (if j = 0 then k_o 15 (m_fs b s) else _) = _
    rw [m_sa_2, if_neg hj, m_sa_3])
theorem m_uj {b : Nat} {s : m_S} {h : k_H} {i n : Nat} {f : Nat → Int64} (hk : m_kn i = (1, n)) (hi : i < 37) (h0 : ¬ i = 0) : k_up (m_hp b s h) (b + i) (k_j n f) = m_hp b (m_sj s i f) h :=
  m_up hi (by unfold m_cl; rw [if_neg h0, hk]; show k_j n (if i = i then f else s.2.2 i) = _; rw [if_pos rfl]) (fun j hj => by
    unfold m_cl
    show (if j = 0 then k_o 15 (m_fs b s) else _) = _
    rw [m_sj_3, if_neg hj, m_sj_2])
theorem m_uo {b : Nat} {s s' : m_S} {h : k_H} {fs : List k_V} (he : m_fs b s' = fs) (h2 : s'.2 = s.2) : k_up (m_hp b s h) b (k_o 15 fs) = m_hp b s' h :=
  m_up (i := 0) (by omega) (by unfold m_cl; rw [if_pos rfl, he]) (fun j hj => by unfold m_cl; rw [if_neg hj, if_neg hj, h2])
theorem m_f0 (b : Nat) (s : m_S) (h : k_H) (x : Int32) : k_up (m_hp b s h) b (k_o 15 ((m_fs b s).set 0 (vI x))) = m_hp b (m_si s 0 x) h := m_uo (s := s) (s' := m_si s 0 x) rfl rfl
theorem m_f1 (b : Nat) (s : m_S) (h : k_H) (x : Int32) : k_up (m_hp b s h) b (k_o 15 ((m_fs b s).set 1 (vI x))) = m_hp b (m_si s 1 x) h := m_uo (s := s) (s' := m_si s 1 x) rfl rfl
theorem m_f2 (b : Nat) (s : m_S) (h : k_H) (x : Int32) : k_up (m_hp b s h) b (k_o 15 ((m_fs b s).set 2 (vI x))) = m_hp b (m_si s 2 x) h := m_uo (s := s) (s' := m_si s 2 x) rfl rfl
theorem m_f5 (b : Nat) (s : m_S) (h : k_H) (x : Int32) : k_up (m_hp b s h) b (k_o 15 ((m_fs b s).set 5 (vI x))) = m_hp b (m_si s 5 x) h := m_uo (s := s) (s' := m_si s 5 x) rfl rfl
theorem m_f10 (b : Nat) (s : m_S) (h : k_H) (x : Int32) : k_up (m_hp b s h) b (k_o 15 ((m_fs b s).set 10 (vI x))) = m_hp b (m_si s 10 x) h := m_uo (s := s) (s' := m_si s 10 x) rfl rfl
theorem m_f19 (b : Nat) (s : m_S) (h : k_H) (x : Int32) : k_up (m_hp b s h) b (k_o 15 ((m_fs b s).set 19 (vI x))) = m_hp b (m_si s 19 x) h := m_uo (s := s) (s' := m_si s 19 x) rfl rfl
theorem m_f30 (b : Nat) (s : m_S) (h : k_H) (x : Int32) : k_up (m_hp b s h) b (k_o 15 ((m_fs b s).set 30 (vI x))) = m_hp b (m_si s 30 x) h := m_uo (s := s) (s' := m_si s 30 x) rfl rfl
theorem m_f31 (b : Nat) (s : m_S) (h : k_H) (x : Int32) : k_up (m_hp b s h) b (k_o 15 ((m_fs b s).set 31 (vI x))) = m_hp b (m_si s 31 x) h := m_uo (s := s) (s' := m_si s 31 x) rfl rfl
theorem m_f32 (b : Nat) (s : m_S) (h : k_H) (x : Int32) : k_up (m_hp b s h) b (k_o 15 ((m_fs b s).set 32 (vI x))) = m_hp b (m_si s 32 x) h := m_uo (s := s) (s' := m_si s 32 x) rfl rfl
theorem m_f33 (b : Nat) (s : m_S) (h : k_H) (x : Int32) : k_up (m_hp b s h) b (k_o 15 ((m_fs b s).set 33 (vI x))) = m_hp b (m_si s 33 x) h := m_uo (s := s) (s' := m_si s 33 x) rfl rfl
theorem m_f34 (b : Nat) (s : m_S) (h : k_H) (x : Int32) : k_up (m_hp b s h) b (k_o 15 ((m_fs b s).set 34 (vI x))) = m_hp b (m_si s 34 x) h := m_uo (s := s) (s' := m_si s 34 x) rfl rfl
theorem m_f35 (b : Nat) (s : m_S) (h : k_H) (x : Int32) : k_up (m_hp b s h) b (k_o 15 ((m_fs b s).set 35 (vI x))) = m_hp b (m_si s 35 x) h := m_uo (s := s) (s' := m_si s 35 x) rfl rfl
theorem m_f36 (b : Nat) (s : m_S) (h : k_H) (x : Int32) : k_up (m_hp b s h) b (k_o 15 ((m_fs b s).set 36 (vI x))) = m_hp b (m_si s 36 x) h := m_uo (s := s) (s' := m_si s 36 x) rfl rfl
theorem m_f42 (b : Nat) (s : m_S) (h : k_H) (x : Int32) : k_up (m_hp b s h) b (k_o 15 ((m_fs b s).set 42 (vI x))) = m_hp b (m_si s 42 x) h := m_uo (s := s) (s' := m_si s 42 x) rfl rfl
theorem m_f47 (b : Nat) (s : m_S) (h : k_H) (x : Int32) : k_up (m_hp b s h) b (k_o 15 ((m_fs b s).set 47 (vI x))) = m_hp b (m_si s 47 x) h := m_uo (s := s) (s' := m_si s 47 x) rfl rfl
theorem m_f49 (b : Nat) (s : m_S) (h : k_H) (x : Int32) : k_up (m_hp b s h) b (k_o 15 ((m_fs b s).set 49 (vI x))) = m_hp b (m_si s 49 x) h := m_uo (s := s) (s' := m_si s 49 x) rfl rfl
theorem m_f52 (b : Nat) (s : m_S) (h : k_H) (x : Int32) : k_up (m_hp b s h) b (k_o 15 ((m_fs b s).set 52 (vI x))) = m_hp b (m_si s 52 x) h := m_uo (s := s) (s' := m_si s 52 x) rfl rfl
/-- what a call of the reference answers, and the raw world behind it -/
def m_p {α : Type} (b : Nat) (h : k_H) (P : m_S → α → Prop) : k_H → α → Prop := fun h' v => ∃ s1, h' = m_hp b s1 h ∧ P s1 v
def m_pv (b : Nat) (h : k_H) (P : m_S → Prop) : k_H → Prop := fun h' => ∃ s1, h' = m_hp b s1 h ∧ P s1
theorem m_stI {T : k_T} {as : List k_V} {b : Nat} {s : m_S} {h : k_H} {x : Int32} (c : k_cti T as (m_hp b s h) (fun h' v => h' = m_hp b s h ∧ v = x)) : k_cti T as (m_hp b s h) (m_p b h (fun s1 v => s1 = s ∧ v = x)) := by
  obtain ⟨h', v, t, rfl, rfl⟩ := c
  exact ⟨_, _, t, s, rfl, rfl, rfl⟩
theorem m_stJ {T : k_T} {as : List k_V} {b : Nat} {s : m_S} {h : k_H} {x : Int64} (c : k_ctj T as (m_hp b s h) (fun h' v => h' = m_hp b s h ∧ v = x)) : k_ctj T as (m_hp b s h) (m_p b h (fun s1 v => s1 = s ∧ v = x)) := by
  obtain ⟨h', v, t, rfl, rfl⟩ := c
  exact ⟨_, _, t, s, rfl, rfl, rfl⟩
