/-! THE REFERENCE IS MADE -/
def m_zr (i : Nat) : k_C := match (m_kn i).1 with
  | 0 => k_i (m_kn i).2 (fun _ => 0)
  | 1 => k_j (m_kn i).2 (fun _ => 0)
  | _ => k_z (m_kn i).2 (fun _ => 0)
def m_sl : Nat → Nat
  | 0 => 0
  | k + 1 => m_sl k + (m_kn (k + 1)).2
def m_in (b k : Nat) (fs : List k_V) (h : k_H) : k_H := (fun q => if q = b then some (k_o 15 fs) else if b < q ∧ q < b + 1 + k then some (m_zr (q - b)) else h.1 q, b + 1 + k, h.2.2 + m_sl k)
theorem m_in_nw (b k : Nat) (fs : List k_V) (h : k_H) {n : Nat} {c : k_C} (hn : n = (m_kn (k + 1)).2) (hc : c = m_zr (k + 1)) : k_nw (m_in b k fs h) n c = m_in b (k + 1) fs h := by
  subst hn hc
  refine Prod.ext (funext fun q => ?_) (Prod.ext rfl (Nat.add_assoc _ _ _))
  show (if q = b + 1 + k then some (m_zr (k + 1)) else if q = b then some (k_o 15 fs) else if b < q ∧ q < b + 1 + k then some (m_zr (q - b)) else h.1 q) = if q = b then some (k_o 15 fs) else if b < q ∧ q < b + 1 + (k + 1) then some (m_zr (q - b)) else h.1 q
  by_cases e : q = b + 1 + k
  · rw [if_pos e, if_neg (by omega), if_pos (by omega), show q - b = k + 1 by omega]
  · rw [if_neg e]
    by_cases e2 : q = b
    · rw [if_pos e2, if_pos e2]
    · rw [if_neg e2, if_neg e2]
      by_cases e3 : b < q ∧ q < b + 1 + k
      · rw [if_pos e3, if_pos (by omega)]
      · rw [if_neg e3, if_neg (by omega)]
theorem m_in_up (b k : Nat) (fs gs : List k_V) (h : k_H) : k_up (m_in b k fs h) b (k_o 15 gs) = m_in b k gs h := by
  refine Prod.ext (funext fun q => ?_) rfl
  show (if q = b then some (k_o 15 gs) else if q = b then some (k_o 15 fs) else if b < q ∧ q < b + 1 + k then some (m_zr (q - b)) else h.1 q) = if q = b then some (k_o 15 gs) else if b < q ∧ q < b + 1 + k then some (m_zr (q - b)) else h.1 q
  by_cases e : q = b
  · rw [if_pos e, if_pos e]
  · rw [if_neg e, if_neg e, if_neg e]
theorem m_in_o (b k : Nat) (fs : List k_V) (h : k_H) : (m_in b k fs h).1 b = some (k_o 15 fs) := if_pos rfl
theorem m_in_n (b k : Nat) (fs : List k_V) (h : k_H) : (m_in b k fs h).2.1 = b + (k + 1) := by show b + 1 + k = _; omega
def m_fd : List k_V := [vI 0, vI 0, vI 0, vR none, vR none, vI 0, vR none, vR none, vR none, vR none, vI 0, vR none, vR none, vR none, vR none, vR none, vR none, vR none, vR none, vI 0, vR none, vR none, vR none, vR none, vR none, vR none, vR none, vR none, vR none, vR none, vI 0, vI 0, vI 0, vI 0, vI 0, vI 0, vI 0, vR none, vR none, vR none, vR none, vR none, vI 0, vR none, vR none, vR none, vR none, vI 0, vR none, vI 0, vR none, vR none, vI 0]
def m_R0 : m_S := ((fun k => if k = 32 then -2147483648 else if k = 36 then 1 else if k = 49 then 1 else 0), ((fun i k => if i = 28 ∧ k = 0 then 1 else if i = 25 ∧ k = 0 then -2147483648 else 0), fun _ _ => 0))
def m_R1 : m_S := ((fun k => if k = 32 then -2147483648 else if k = 36 then 1 else if k = 49 then 1 else 0), ((fun _ _ => 0), fun _ _ => 0))
theorem m_in_hp (b : Nat) (fs : List k_V) (h : k_H) (hf : fs = m_fs b m_R1) : m_in b 36 fs h = m_hp b m_R1 (h.1, b + 37, h.2.2 + m_sl 36) := by
  subst hf
  refine Prod.ext (funext fun q => ?_) rfl
  show (if q = b then some (k_o 15 (m_fs b m_R1)) else if b < q ∧ q < b + 1 + 36 then some (m_zr (q - b)) else h.1 q) = if b ≤ q ∧ q < b + 37 then some (m_cl b m_R1 (q - b)) else h.1 q
  by_cases e : q = b
  · rw [if_pos e, if_pos (by omega), show q - b = 0 by omega]; rfl
  · rw [if_neg e]
    by_cases e2 : b < q ∧ q < b + 37
    · rw [if_pos (by omega), if_pos (by omega)]
      congr 1
      unfold m_cl m_zr
      rw [if_neg (show ¬ q - b = 0 by omega)]
      generalize m_kn (q - b) = p
      obtain ⟨k, n⟩ := p
      match k with
      | 0 => rfl
      | 1 => rfl
      | k + 2 => rfl
    · rw [if_neg (by omega), if_neg (by omega)]
theorem m_R0_e : m_sa (m_sa m_R1 28 (va_up (m_R1.2.1 28) 0 1)) 25 (va_up ((m_sa m_R1 28 (va_up (m_R1.2.1 28) 0 1)).2.1 25) 0 (-2147483648)) = m_R0 := by
  refine Prod.ext rfl (Prod.ext (funext fun i => funext fun k => ?_) rfl)
  show (if i = 25 then va_up (fun _ => 0) 0 (-2147483648) else if i = 28 then va_up (fun _ => 0) 0 1 else fun _ => 0) k = if i = 28 ∧ k = 0 then 1 else if i = 25 ∧ k = 0 then -2147483648 else 0
  by_cases e : i = 25
  · rw [if_pos e, if_neg (by omega)]
    by_cases ek : k = 0
    · rw [ek, va_up_self, if_pos ⟨e, rfl⟩]
    · rw [va_up_ne _ _ ek, if_neg (fun z => ek z.2)]
  · rw [if_neg e]
    by_cases e2 : i = 28
    · rw [if_pos e2]
      by_cases ek : k = 0
      · rw [ek, va_up_self, if_pos ⟨e2, rfl⟩]
      · rw [va_up_ne _ _ ek, if_neg (fun z => ek z.2), if_neg (fun z => ek z.2)]
    · rw [if_neg e2, if_neg (fun z => e2 z.1), if_neg (fun z => e z.1)]
def g_0 : s_M := ((0, 0, 0, -2147483648, 0), ([], [], []), (fun _ => ((false, false, 0, 0, 0), [], [])), [], [], [(0, 0)], ([(0, none, 0, 0)], 1))
theorem m_R0_z {i : Nat} (h1 : ¬ i = 28) (h2 : ¬ i = 25) (k : Nat) : m_R0.2.1 i k = 0 := by
  show (if i = 28 ∧ k = 0 then 1 else if i = 25 ∧ k = 0 then -2147483648 else 0) = (0 : Int32)
  rw [if_neg (fun z => h1 z.1), if_neg (fun z => h2 z.1)]
theorem m_M_0 : m_M m_R0 g_0 := by
  refine ⟨⟨⟨⟨rfl, by decide, fun i x hx => absurd hx (by simp [g_0, g_E]), List.Pairwise.nil⟩, rfl, by decide, trivial, rfl, by decide, (fun x hx => nomatch hx), (fun x hx => nomatch hx)⟩, ⟨rfl, by decide, fun i x hx => absurd hx (by simp [g_0, g_E])⟩⟩, ⟨rfl, ⟨rfl, fun z => absurd z (by decide), fun z => absurd z (by decide), by decide⟩, rfl, rfl⟩, fun t ht => ?_, ⟨rfl, by decide, fun i x hx => absurd hx (by simp [g_0, g_WT])⟩, ⟨rfl, by decide, fun i x hx => absurd hx (by simp [g_0, g_MK])⟩, ⟨rfl, by decide, fun i p hp => ?_⟩, ⟨rfl, by decide, fun k hk => ?_, fun d hd => ?_⟩⟩
  · have e : g_X g_0 t = ((false, false, 0, 0, 0), [], []) := rfl
    rw [e]
    refine ⟨⟨?_, ?_, ?_, ?_, ?_⟩, ⟨by decide, by decide, by decide⟩, ⟨?_, Nat.zero_le _, fun k x hx => nomatch hx⟩, ⟨?_, Nat.zero_le _, fun k x hx => nomatch hx⟩⟩ <;> exact m_R0_z (by decide) (by decide) t
  · have hp2 : [((0 : Nat), (0 : Int32))][i]? = some p := hp
    have hi : i = 0 := by
      have := (List.getElem?_eq_some_iff.mp hp2).1
      simp at this; omega
    rw [hi] at hp2 ⊢
    cases hp2
    exact ⟨rfl, rfl, by decide⟩
  · have hk2 : k = 0 := by
      have : k < 1 := hk
      omega
    rw [hk2]
    rfl
  · have hd2 : d ∈ [((0 : Nat), ((none : Option Nat), (0 : Nat), (0 : Nat)))] := hd
    rw [List.mem_singleton] at hd2
    subst hd2
    exact ⟨by decide, rfl, rfl, rfl⟩
def m_rr (b k i : Nat) : k_V := if i ≤ k then vR (some (b + i)) else vR none
def m_cc (c d : Nat) (x : Int32) : k_V := if d ≤ c then vI x else vI 0
def m_fk (b k c : Nat) : List k_V := [vI 0, vI 0, vI 0, m_rr b k 1, m_rr b k 2, vI 0, m_rr b k 3, m_rr b k 4, m_rr b k 5, m_rr b k 6, vI 0, m_rr b k 7, m_rr b k 8, m_rr b k 9, m_rr b k 10, m_rr b k 11, m_rr b k 12, m_rr b k 13, m_rr b k 14, vI 0, m_rr b k 15, m_rr b k 16, m_rr b k 17, m_rr b k 18, m_rr b k 19, m_rr b k 20, m_rr b k 21, m_rr b k 22, m_rr b k 23, m_rr b k 24, vI 0, vI 0, m_cc c 1 (-2147483648), vI 0, vI 0, vI 0, m_cc c 2 1, m_rr b k 25, m_rr b k 26, m_rr b k 27, m_rr b k 28, m_rr b k 29, vI 0, m_rr b k 30, m_rr b k 31, m_rr b k 32, m_rr b k 33, vI 0, m_rr b k 34, m_cc c 3 1, m_rr b k 35, m_rr b k 36, vI 0]
theorem x_eq {j : k_H → Nat → k_L → List k_V → k_H → k_R → Prop} {h1 h2 : k_H} {pc : Nat} {lv : k_L} {st : List k_V} (st2 : List k_V) {Q : k_H → k_R → Prop} (e : h1 = h2) (es : st = st2) (K : k_X j h2 pc lv st2 Q) : k_X j h1 pc lv st Q := by
  subst e es
  exact K
theorem m_in_fk (b k : Nat) {fs gs gs2 : List k_V} (h : k_H) (e : gs = gs2) : k_up (m_in b k fs h) b (k_o 15 gs) = m_in b k gs2 h := by
  rw [m_in_up, e]
section MIN
variable {G : k_G} {l : Launch}
theorem c_X12_init (ok : k_ok G l) {b : Nat} {h : k_H} (hb : h.1 b = some (k_o 15 m_fd)) (hn : h.2.1 = b + 1) : k_ctv (tX12_init G l) [vR (some b)] h (fun h' => h' = m_hp b m_R0 (h.1, b + 37, h.2.2 + m_sl 36)) := by
  have h0 : h = m_in b 0 m_fd h := by
    refine Prod.ext (funext fun q => ?_) (Prod.ext hn rfl)
    show h.1 q = if q = b then some (k_o 15 m_fd) else if b < q ∧ q < b + 1 + 0 then some (m_zr (q - b)) else h.1 q
    by_cases e : q = b
    · rw [if_pos e, e, hb]
    · rw [if_neg e, if_neg (by omega)]
  refine k_ctv_of (eX12_init ok.2 ?_)
  suffices S : ∀ h1, h1 = m_in b 0 (m_fk b 0 0) h → k_X (jX12_init G l h) h1 0 [(0, vR (some b))] [] (q_v (fun h' => h' = m_hp b m_R0 (h.1, b + 37, h.2.2 + m_sl 36))) from S h (h0.trans rfl)
  rintro _ rfl
  refine bX12_init_0 (x_eq [vR (some (b + 1)), vR (some b)] (m_in_nw b 0 (m_fk b 0 0) h rfl rfl) rfl ?_)
  refine bX12_init_10 (m_in_o b 1 (m_fk b 0 0) h) rfl (x_eq [] (m_in_fk b 1 h (gs2 := m_fk b 1 0) rfl) rfl ?_)
  refine bX12_init_13 (x_eq [vR (some (b + 2)), vR (some b)] (m_in_nw b 1 (m_fk b 1 0) h rfl rfl) rfl ?_)
  refine bX12_init_19 (m_in_o b 2 (m_fk b 1 0) h) rfl (x_eq [] (m_in_fk b 2 h (gs2 := m_fk b 2 0) rfl) rfl ?_)
  refine bX12_init_22 (x_eq [vR (some (b + 3)), vR (some b)] (m_in_nw b 2 (m_fk b 2 0) h rfl rfl) rfl ?_)
  refine bX12_init_27 (m_in_o b 3 (m_fk b 2 0) h) rfl (x_eq [] (m_in_fk b 3 h (gs2 := m_fk b 3 0) rfl) rfl ?_)
  refine bX12_init_30 (x_eq [vR (some (b + 4)), vR (some b)] (m_in_nw b 3 (m_fk b 3 0) h rfl rfl) rfl ?_)
  refine bX12_init_35 (m_in_o b 4 (m_fk b 3 0) h) rfl (x_eq [] (m_in_fk b 4 h (gs2 := m_fk b 4 0) rfl) rfl ?_)
  refine bX12_init_38 (x_eq [vR (some (b + 5)), vR (some b)] (m_in_nw b 4 (m_fk b 4 0) h rfl rfl) rfl ?_)
  refine bX12_init_43 (m_in_o b 5 (m_fk b 4 0) h) rfl (x_eq [] (m_in_fk b 5 h (gs2 := m_fk b 5 0) rfl) rfl ?_)
  refine bX12_init_46 (x_eq [vR (some (b + 6)), vR (some b)] (m_in_nw b 5 (m_fk b 5 0) h rfl rfl) rfl ?_)
  refine bX12_init_51 (m_in_o b 6 (m_fk b 5 0) h) rfl (x_eq [] (m_in_fk b 6 h (gs2 := m_fk b 6 0) rfl) rfl ?_)
  refine bX12_init_54 (x_eq [vR (some (b + 7)), vR (some b)] (m_in_nw b 6 (m_fk b 6 0) h rfl rfl) rfl ?_)
  refine bX12_init_60 (m_in_o b 7 (m_fk b 6 0) h) rfl (x_eq [] (m_in_fk b 7 h (gs2 := m_fk b 7 0) rfl) rfl ?_)
  refine bX12_init_63 (x_eq [vR (some (b + 8)), vR (some b)] (m_in_nw b 7 (m_fk b 7 0) h rfl rfl) rfl ?_)
  refine bX12_init_69 (m_in_o b 8 (m_fk b 7 0) h) rfl (x_eq [] (m_in_fk b 8 h (gs2 := m_fk b 8 0) rfl) rfl ?_)
  refine bX12_init_72 (x_eq [vR (some (b + 9)), vR (some b)] (m_in_nw b 8 (m_fk b 8 0) h rfl rfl) rfl ?_)
  refine bX12_init_78 (m_in_o b 9 (m_fk b 8 0) h) rfl (x_eq [] (m_in_fk b 9 h (gs2 := m_fk b 9 0) rfl) rfl ?_)
  refine bX12_init_81 (x_eq [vR (some (b + 10)), vR (some b)] (m_in_nw b 9 (m_fk b 9 0) h rfl rfl) rfl ?_)
  refine bX12_init_85 (m_in_o b 10 (m_fk b 9 0) h) rfl (x_eq [] (m_in_fk b 10 h (gs2 := m_fk b 10 0) rfl) rfl ?_)
  refine bX12_init_88 (x_eq [vR (some (b + 11)), vR (some b)] (m_in_nw b 10 (m_fk b 10 0) h rfl rfl) rfl ?_)
  refine bX12_init_92 (m_in_o b 11 (m_fk b 10 0) h) rfl (x_eq [] (m_in_fk b 11 h (gs2 := m_fk b 11 0) rfl) rfl ?_)
  refine bX12_init_95 (x_eq [vR (some (b + 12)), vR (some b)] (m_in_nw b 11 (m_fk b 11 0) h rfl rfl) rfl ?_)
  refine bX12_init_99 (m_in_o b 12 (m_fk b 11 0) h) rfl (x_eq [] (m_in_fk b 12 h (gs2 := m_fk b 12 0) rfl) rfl ?_)
  refine bX12_init_102 (x_eq [vR (some (b + 13)), vR (some b)] (m_in_nw b 12 (m_fk b 12 0) h rfl rfl) rfl ?_)
  refine bX12_init_106 (m_in_o b 13 (m_fk b 12 0) h) rfl (x_eq [] (m_in_fk b 13 h (gs2 := m_fk b 13 0) rfl) rfl ?_)
  refine bX12_init_109 (x_eq [vR (some (b + 14)), vR (some b)] (m_in_nw b 13 (m_fk b 13 0) h rfl rfl) rfl ?_)
  refine bX12_init_113 (m_in_o b 14 (m_fk b 13 0) h) rfl (x_eq [] (m_in_fk b 14 h (gs2 := m_fk b 14 0) rfl) rfl ?_)
  refine bX12_init_116 (x_eq [vR (some (b + 15)), vR (some b)] (m_in_nw b 14 (m_fk b 14 0) h rfl rfl) rfl ?_)
  refine bX12_init_120 (m_in_o b 15 (m_fk b 14 0) h) rfl (x_eq [] (m_in_fk b 15 h (gs2 := m_fk b 15 0) rfl) rfl ?_)
  refine bX12_init_123 (x_eq [vR (some (b + 16)), vR (some b)] (m_in_nw b 15 (m_fk b 15 0) h rfl rfl) rfl ?_)
  refine bX12_init_129 (m_in_o b 16 (m_fk b 15 0) h) rfl (x_eq [] (m_in_fk b 16 h (gs2 := m_fk b 16 0) rfl) rfl ?_)
  refine bX12_init_132 (x_eq [vR (some (b + 17)), vR (some b)] (m_in_nw b 16 (m_fk b 16 0) h rfl rfl) rfl ?_)
  refine bX12_init_138 (m_in_o b 17 (m_fk b 16 0) h) rfl (x_eq [] (m_in_fk b 17 h (gs2 := m_fk b 17 0) rfl) rfl ?_)
  refine bX12_init_141 (x_eq [vR (some (b + 18)), vR (some b)] (m_in_nw b 17 (m_fk b 17 0) h rfl rfl) rfl ?_)
  refine bX12_init_147 (m_in_o b 18 (m_fk b 17 0) h) rfl (x_eq [] (m_in_fk b 18 h (gs2 := m_fk b 18 0) rfl) rfl ?_)
  refine bX12_init_150 (x_eq [vR (some (b + 19)), vR (some b)] (m_in_nw b 18 (m_fk b 18 0) h rfl rfl) rfl ?_)
  refine bX12_init_156 (m_in_o b 19 (m_fk b 18 0) h) rfl (x_eq [] (m_in_fk b 19 h (gs2 := m_fk b 19 0) rfl) rfl ?_)
  refine bX12_init_159 (x_eq [vR (some (b + 20)), vR (some b)] (m_in_nw b 19 (m_fk b 19 0) h rfl rfl) rfl ?_)
  refine bX12_init_165 (m_in_o b 20 (m_fk b 19 0) h) rfl (x_eq [] (m_in_fk b 20 h (gs2 := m_fk b 20 0) rfl) rfl ?_)
  refine bX12_init_168 (x_eq [vR (some (b + 21)), vR (some b)] (m_in_nw b 20 (m_fk b 20 0) h rfl rfl) rfl ?_)
  refine bX12_init_172 (m_in_o b 21 (m_fk b 20 0) h) rfl (x_eq [] (m_in_fk b 21 h (gs2 := m_fk b 21 0) rfl) rfl ?_)
  refine bX12_init_175 (x_eq [vR (some (b + 22)), vR (some b)] (m_in_nw b 21 (m_fk b 21 0) h rfl rfl) rfl ?_)
  refine bX12_init_181 (m_in_o b 22 (m_fk b 21 0) h) rfl (x_eq [] (m_in_fk b 22 h (gs2 := m_fk b 22 0) rfl) rfl ?_)
  refine bX12_init_184 (x_eq [vR (some (b + 23)), vR (some b)] (m_in_nw b 22 (m_fk b 22 0) h rfl rfl) rfl ?_)
  refine bX12_init_190 (m_in_o b 23 (m_fk b 22 0) h) rfl (x_eq [] (m_in_fk b 23 h (gs2 := m_fk b 23 0) rfl) rfl ?_)
  refine bX12_init_193 (x_eq [vR (some (b + 24)), vR (some b)] (m_in_nw b 23 (m_fk b 23 0) h rfl rfl) rfl ?_)
  refine bX12_init_199 (m_in_o b 24 (m_fk b 23 0) h) rfl (x_eq [] (m_in_fk b 24 h (gs2 := m_fk b 24 0) rfl) rfl ?_)
  refine bX12_init_202 (m_in_o b 24 (m_fk b 24 0) h) rfl (x_eq [] (m_in_fk b 24 h (gs2 := m_fk b 24 1) rfl) rfl ?_)
  refine bX12_init_208 (m_in_o b 24 (m_fk b 24 1) h) rfl (x_eq [] (m_in_fk b 24 h (gs2 := m_fk b 24 2) rfl) rfl ?_)
  refine bX12_init_213 (x_eq [vR (some (b + 25)), vR (some b)] (m_in_nw b 24 (m_fk b 24 2) h rfl rfl) rfl ?_)
  refine bX12_init_219 (m_in_o b 25 (m_fk b 24 2) h) rfl (x_eq [] (m_in_fk b 25 h (gs2 := m_fk b 25 2) rfl) rfl ?_)
  refine bX12_init_222 (x_eq [vR (some (b + 26)), vR (some b)] (m_in_nw b 25 (m_fk b 25 2) h rfl rfl) rfl ?_)
  refine bX12_init_228 (m_in_o b 26 (m_fk b 25 2) h) rfl (x_eq [] (m_in_fk b 26 h (gs2 := m_fk b 26 2) rfl) rfl ?_)
  refine bX12_init_231 (x_eq [vR (some (b + 27)), vR (some b)] (m_in_nw b 26 (m_fk b 26 2) h rfl rfl) rfl ?_)
  refine bX12_init_237 (m_in_o b 27 (m_fk b 26 2) h) rfl (x_eq [] (m_in_fk b 27 h (gs2 := m_fk b 27 2) rfl) rfl ?_)
  refine bX12_init_240 (x_eq [vR (some (b + 28)), vR (some b)] (m_in_nw b 27 (m_fk b 27 2) h rfl rfl) rfl ?_)
  refine bX12_init_246 (m_in_o b 28 (m_fk b 27 2) h) rfl (x_eq [] (m_in_fk b 28 h (gs2 := m_fk b 28 2) rfl) rfl ?_)
  refine bX12_init_249 (x_eq [vR (some (b + 29)), vR (some b)] (m_in_nw b 28 (m_fk b 28 2) h rfl rfl) rfl ?_)
  refine bX12_init_255 (m_in_o b 29 (m_fk b 28 2) h) rfl (x_eq [] (m_in_fk b 29 h (gs2 := m_fk b 29 2) rfl) rfl ?_)
  refine bX12_init_258 (x_eq [vR (some (b + 30)), vR (some b)] (m_in_nw b 29 (m_fk b 29 2) h rfl rfl) rfl ?_)
  refine bX12_init_263 (m_in_o b 30 (m_fk b 29 2) h) rfl (x_eq [] (m_in_fk b 30 h (gs2 := m_fk b 30 2) rfl) rfl ?_)
  refine bX12_init_266 (x_eq [vR (some (b + 31)), vR (some b)] (m_in_nw b 30 (m_fk b 30 2) h rfl rfl) rfl ?_)
  refine bX12_init_271 (m_in_o b 31 (m_fk b 30 2) h) rfl (x_eq [] (m_in_fk b 31 h (gs2 := m_fk b 31 2) rfl) rfl ?_)
  refine bX12_init_274 (x_eq [vR (some (b + 32)), vR (some b)] (m_in_nw b 31 (m_fk b 31 2) h rfl rfl) rfl ?_)
  refine bX12_init_279 (m_in_o b 32 (m_fk b 31 2) h) rfl (x_eq [] (m_in_fk b 32 h (gs2 := m_fk b 32 2) rfl) rfl ?_)
  refine bX12_init_282 (x_eq [vR (some (b + 33)), vR (some b)] (m_in_nw b 32 (m_fk b 32 2) h rfl rfl) rfl ?_)
  refine bX12_init_287 (m_in_o b 33 (m_fk b 32 2) h) rfl (x_eq [] (m_in_fk b 33 h (gs2 := m_fk b 33 2) rfl) rfl ?_)
  refine bX12_init_290 (x_eq [vR (some (b + 34)), vR (some b)] (m_in_nw b 33 (m_fk b 33 2) h rfl rfl) rfl ?_)
  refine bX12_init_295 (m_in_o b 34 (m_fk b 33 2) h) rfl (x_eq [] (m_in_fk b 34 h (gs2 := m_fk b 34 2) rfl) rfl ?_)
  refine bX12_init_298 (m_in_o b 34 (m_fk b 34 2) h) rfl (x_eq [] (m_in_fk b 34 h (gs2 := m_fk b 34 3) rfl) rfl ?_)
  refine bX12_init_303 (x_eq [vR (some (b + 35)), vR (some b)] (m_in_nw b 34 (m_fk b 34 3) h rfl rfl) rfl ?_)
  refine bX12_init_309 (m_in_o b 35 (m_fk b 34 3) h) rfl (x_eq [] (m_in_fk b 35 h (gs2 := m_fk b 35 3) rfl) rfl ?_)
  refine bX12_init_312 (x_eq [vR (some (b + 36)), vR (some b)] (m_in_nw b 35 (m_fk b 35 3) h rfl rfl) rfl ?_)
  refine bX12_init_318 (m_in_o b 36 (m_fk b 35 3) h) rfl (x_eq [] (m_in_fk b 36 h (gs2 := m_fk b 36 3) rfl) rfl ?_)
  refine x_eq [] (m_in_hp b (m_fk b 36 3) h rfl) rfl ?_
  refine bX12_init_321 (m_o b _ _) rfl (m_rz (i := 28) (n := 1024) rfl (by decide) (by decide)) (m_ii (i := 0) (by decide) (by decide)) (x_eq [] (m_uz (i := 28) (n := 1024) rfl (by decide) (by decide)) rfl ?_)
  refine bX12_init_328 (m_o b _ _) rfl (m_ri (i := 25) (n := 1024) rfl (by decide) (by decide)) (m_ii (i := 0) (by decide) (by decide)) (x_eq [] (m_ui (i := 25) (n := 1024) rfl (by decide) (by decide)) rfl ?_)
  refine bX12_init_336 ⟨rfl, ?_⟩
  exact congrArg (fun s => m_hp b s (h.1, b + 37, h.2.2 + m_sl 36)) m_R0_e
end MIN
