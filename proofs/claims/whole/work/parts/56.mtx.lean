/-! TRANSACTIONS OF THE REFERENCE: (begun, once, version, generation, done), changes, readings (low, high, serial) -/
abbrev s_X : Type := (Bool × Bool × Nat × Nat × Nat) × List k_CH × List (Nat × Nat × Nat)
def m_rd (s : m_S) (t : Nat) (MR : List (Nat × Nat × Nat)) : Prop := s.2.1 21 t = nI MR.length ∧ MR.length ≤ 2048 ∧ ∀ (k : Nat) (x : Nat × Nat × Nat), MR[k]? = some x → s.2.2 22 (2048 * t + k) = lN x.1 ∧ s.2.2 23 (2048 * t + k) = lN (x.2.1 - 1) ∧ s.2.1 24 (2048 * t + k) = nI x.2.2 ∧ x.1 < x.2.1 ∧ x.2.1 < 2 ^ 61 ∧ x.2.2 < 2 ^ 30
def m_tx (s : m_S) (t : Nat) (x : s_X) : Prop := (s.2.1 10 t = kB x.1.1 ∧ s.2.1 11 t = kB x.1.2.1 ∧ s.2.1 12 t = nI x.1.2.2.1 ∧ s.2.1 13 t = nI x.1.2.2.2.1 ∧ s.2.1 14 t = nI x.1.2.2.2.2) ∧ (x.1.2.2.1 < 2 ^ 20 ∧ x.1.2.2.2.1 < 2 ^ 20 ∧ x.1.2.2.2.2 < 2 ^ 20) ∧ m_ch s t x.2.1 ∧ m_rd s t x.2.2
/-- what belongs to a transaction has stayed -/
def m_tk (t : Nat) (s s1 : m_S) : Prop := (s1.2.1 10 t = s.2.1 10 t ∧ s1.2.1 11 t = s.2.1 11 t ∧ s1.2.1 12 t = s.2.1 12 t ∧ s1.2.1 13 t = s.2.1 13 t ∧ s1.2.1 14 t = s.2.1 14 t) ∧ (s1.2.1 15 t = s.2.1 15 t ∧ ∀ k, k < 4096 → s1.2.1 16 (4096 * t + k) = s.2.1 16 (4096 * t + k) ∧ s1.2.2 17 (4096 * t + k) = s.2.2 17 (4096 * t + k) ∧ s1.2.2 18 (4096 * t + k) = s.2.2 18 (4096 * t + k) ∧ s1.2.1 19 (4096 * t + k) = s.2.1 19 (4096 * t + k) ∧ s1.2.1 20 (4096 * t + k) = s.2.1 20 (4096 * t + k)) ∧
  (s1.2.1 21 t = s.2.1 21 t ∧ ∀ k, k < 2048 → s1.2.2 22 (2048 * t + k) = s.2.2 22 (2048 * t + k) ∧ s1.2.2 23 (2048 * t + k) = s.2.2 23 (2048 * t + k) ∧ s1.2.1 24 (2048 * t + k) = s.2.1 24 (2048 * t + k))
theorem m_tk_refl (t : Nat) (s : m_S) : m_tk t s s := ⟨⟨rfl, rfl, rfl, rfl, rfl⟩, ⟨rfl, fun _ _ => ⟨rfl, rfl, rfl, rfl, rfl⟩⟩, ⟨rfl, fun _ _ => ⟨rfl, rfl, rfl⟩⟩⟩
theorem m_tk_trans {t : Nat} {s s1 s2 : m_S} (h1 : m_tk t s s1) (h2 : m_tk t s1 s2) : m_tk t s s2 := by
  obtain ⟨⟨a1, a2, a3, a4, a5⟩, ⟨b1, b2⟩, ⟨c1, c2⟩⟩ := h1
  obtain ⟨⟨d1, d2, d3, d4, d5⟩, ⟨e1, e2⟩, ⟨f1, f2⟩⟩ := h2
  refine ⟨⟨d1.trans a1, d2.trans a2, d3.trans a3, d4.trans a4, d5.trans a5⟩, ⟨e1.trans b1, fun k hk => ?_⟩, ⟨f1.trans c1, fun k hk => ?_⟩⟩
  · obtain ⟨x1, x2, x3, x4, x5⟩ := b2 k hk
    obtain ⟨y1, y2, y3, y4, y5⟩ := e2 k hk
    exact ⟨y1.trans x1, y2.trans x2, y3.trans x3, y4.trans x4, y5.trans x5⟩
  · obtain ⟨x1, x2, x3⟩ := c2 k hk
    obtain ⟨y1, y2, y3⟩ := f2 k hk
    exact ⟨y1.trans x1, y2.trans x2, y3.trans x3⟩
theorem m_tk_fr {A B : List Nat} {t : Nat} {s s1 : m_S} (f : m_fr A B s s1) (hB : ∀ i, 9 < i → i < 25 → i ∉ B) : m_tk t s s1 := by
  have r := fun i h1 h2 => f.2 i (hB i h1 h2)
  unfold m_tk
  rw [(r 10 (by omega) (by omega)).1, (r 11 (by omega) (by omega)).1, (r 12 (by omega) (by omega)).1, (r 13 (by omega) (by omega)).1, (r 14 (by omega) (by omega)).1, (r 15 (by omega) (by omega)).1, (r 16 (by omega) (by omega)).1, (r 17 (by omega) (by omega)).2, (r 18 (by omega) (by omega)).2, (r 19 (by omega) (by omega)).1, (r 20 (by omega) (by omega)).1, (r 21 (by omega) (by omega)).1, (r 22 (by omega) (by omega)).2, (r 23 (by omega) (by omega)).2, (r 24 (by omega) (by omega)).1]
  exact ⟨⟨rfl, rfl, rfl, rfl, rfl⟩, ⟨rfl, fun _ _ => ⟨rfl, rfl, rfl, rfl, rfl⟩⟩, ⟨rfl, fun _ _ => ⟨rfl, rfl, rfl⟩⟩⟩
theorem m_tx_tk {t : Nat} {s s1 : m_S} {x : s_X} (h : m_tx s t x) (k : m_tk t s s1) : m_tx s1 t x := by
  obtain ⟨⟨a1, a2, a3, a4, a5⟩, hb, ⟨q1, q2, q3⟩, ⟨p1, p2, p3⟩⟩ := h
  obtain ⟨⟨d1, d2, d3, d4, d5⟩, ⟨e1, e2⟩, ⟨f1, f2⟩⟩ := k
  refine ⟨⟨d1.trans a1, d2.trans a2, d3.trans a3, d4.trans a4, d5.trans a5⟩, hb, ⟨e1.trans q1, q2, fun k y hy => ?_⟩, ⟨f1.trans p1, p2, fun k y hy => ?_⟩⟩
  · obtain ⟨z1, z2, z3, z4, z5⟩ := e2 k (by have := (List.getElem?_eq_some_iff.mp hy).1; omega)
    rw [z1, z2, z3, z4, z5]
    exact q3 k y hy
  · obtain ⟨z1, z2, z3⟩ := f2 k (by have := (List.getElem?_eq_some_iff.mp hy).1; omega)
    rw [z1, z2, z3]
    exact p3 k y hy
/-- only this transaction's -/
def m_ft (t : Nat) (s s1 : m_S) : Prop := ∀ u, u < 4 → u ≠ t → m_tk u s s1
theorem m_ft_refl (t : Nat) (s : m_S) : m_ft t s s := fun u _ _ => m_tk_refl u s
theorem m_ft_trans {t : Nat} {s s1 s2 : m_S} (h1 : m_ft t s s1) (h2 : m_ft t s1 s2) : m_ft t s s2 := fun u a b => m_tk_trans (h1 u a b) (h2 u a b)
theorem m_ft_fr {A B : List Nat} {t : Nat} {s s1 : m_S} (f : m_fr A B s s1) (hB : ∀ i, 9 < i → i < 25 → i ∉ B) : m_ft t s s1 := fun _ _ _ => m_tk_fr f hB
section MX
variable {G : k_G} {l : Launch}
theorem c_X12_over (ok : k_ok G l) {b : Nat} {s : m_S} {h : k_H} {t : Nat} {x : s_X} (ht : t < 4) (hx : m_tx s t x) :
    k_ctv (tX12_over G l) [vR (some b), vI (nI t)] (m_hp b s h) (m_pv b h (fun s1 => m_tx s1 t ((false, x.1.2), [], []) ∧ m_ft t s s1 ∧ m_fr [] [10, 15, 21] s s1)) := by
  have ec : (nI t).toNatClampNeg = t := nI_clamp (by omega)
  have y : vp_in (nI t) 4 := m_ii ht (by omega)
  obtain ⟨⟨a1, a2, a3, a4, a5⟩, hb, ⟨q1, q2, q3⟩, ⟨p1, p2, p3⟩⟩ := hx
  refine k_ctv_of (eX12_over ok.2 (mX12_over_0 y (mX12_over_7 y (mX12_over_14 y (bX12_over_21 ⟨rfl, _, rfl, ?_, ?_, ?_⟩)))))
  · refine ⟨⟨?_, a2, a3, a4, a5⟩, hb, ⟨?_, Nat.zero_le _, fun k x hx => by simp at hx⟩, ⟨?_, Nat.zero_le _, fun k x hx => by simp at hx⟩⟩
    · show va_up (s.2.1 10) (nI t).toNatClampNeg 0 t = _
      rw [ec, va_up_self]; rfl
    · show va_up (s.2.1 15) (nI t).toNatClampNeg 0 t = _
      rw [ec, va_up_self]; rfl
    · show va_up (s.2.1 21) (nI t).toNatClampNeg 0 t = _
      rw [ec, va_up_self]; rfl
  · intro u hu hne
    refine ⟨⟨?_, rfl, rfl, rfl, rfl⟩, ⟨?_, fun _ _ => ⟨rfl, rfl, rfl, rfl, rfl⟩⟩, ⟨?_, fun _ _ => ⟨rfl, rfl, rfl⟩⟩⟩
    · show va_up (s.2.1 10) (nI t).toNatClampNeg 0 u = _
      rw [ec, va_up_ne _ _ hne]
    · show va_up (s.2.1 15) (nI t).toNatClampNeg 0 u = _
      rw [ec, va_up_ne _ _ hne]
    · show va_up (s.2.1 21) (nI t).toNatClampNeg 0 u = _
      rw [ec, va_up_ne _ _ hne]
  · refine ⟨fun _ _ => rfl, fun i hi => ⟨?_, rfl⟩⟩
    simp only [List.mem_cons, List.not_mem_nil, or_false, not_or] at hi
    show (if i = 21 then _ else if i = 15 then _ else if i = 10 then _ else s.2.1 i) = _
    rw [if_neg hi.2.2, if_neg hi.2.1, if_neg hi.1]
theorem c_X12_putsDown (ok : k_ok G l) {b : Nat} {s : m_S} {h : k_H} {t lo hi ser : Nat} {x : s_X} (ht : t < 4) (hx : m_tx s t x) (h19 : s.1 19 = nI ser) (hser : ser < 2 ^ 30) (hlen : x.2.2.length < 2048) (hlo : lo ≤ hi) (hhi : hi < 2 ^ 60) :
    k_ctv (tX12_putsDown G l) [vR (some b), vI (nI t), vJ (lN lo), vJ (lN hi)] (m_hp b s h) (m_pv b h (fun s1 => m_tx s1 t (x.1, x.2.1, x.2.2 ++ [(lo, hi + 1, ser)]) ∧ m_ft t s s1 ∧ m_fr [] [21, 22, 23, 24] s s1)) := by
  have ec : (nI t).toNatClampNeg = t := nI_clamp (by omega)
  have y : vp_in (nI t) 4 := m_ii ht (by omega)
  obtain ⟨⟨a1, a2, a3, a4, a5⟩, hb, ⟨q1, q2, q3⟩, ⟨p1, p2, p3⟩⟩ := hx
  have ea : 2048 * nI t + (s.2.1 21) (nI t).toNatClampNeg = nI (2048 * t + x.2.2.length) := by rw [ec, p1, show (2048 : Int32) = nI 2048 from rfl, nI_mul, nI_add]
  have yk : vp_in (nI (2048 * t + x.2.2.length)) 8192 := m_ii (by omega) (by omega)
  have ek : (nI (2048 * t + x.2.2.length)).toNatClampNeg = 2048 * t + x.2.2.length := nI_clamp (by omega)
  refine k_ctv_of (eX12_putsDown ok.2 (mX12_putsDown_0 y (by rw [ea]; exact yk) ?_))
  rw [ea]
  refine mX12_putsDown_22 yk (mX12_putsDown_31 yk (mX12_putsDown_42 y (bX12_putsDown_52 ⟨rfl, _, rfl, ?_, ?_, ?_⟩)))
  · refine ⟨⟨a1, a2, a3, a4, a5⟩, hb, ⟨q1, q2, q3⟩, ⟨?_, by simp; omega, fun k z hz => ?_⟩⟩
    · show va_up (s.2.1 21) (nI t).toNatClampNeg (s.2.1 21 (nI t).toNatClampNeg + 1) t = _
      rw [ec, va_up_self, p1, nI_1, List.length_append]; rfl
    · show va_up (s.2.2 22) (nI (2048 * t + x.2.2.length)).toNatClampNeg (lN lo) (2048 * t + k) = _ ∧ va_up (s.2.2 23) (nI (2048 * t + x.2.2.length)).toNatClampNeg (lN hi) (2048 * t + k) = _ ∧ va_up (s.2.1 24) (nI (2048 * t + x.2.2.length)).toNatClampNeg (s.1 19) (2048 * t + k) = _ ∧ _
      rw [ek]
      by_cases e : k < x.2.2.length
      · rw [List.getElem?_append_left e] at hz
        rw [va_up_ne _ _ (by omega), va_up_ne _ _ (by omega), va_up_ne _ _ (by omega)]
        exact p3 _ _ hz
      · have e2 : k = x.2.2.length := by
          have := (List.getElem?_eq_some_iff.mp hz).1
          simp at this; omega
        rw [e2] at hz ⊢
        simp at hz
        subst hz
        rw [va_up_self, va_up_self, va_up_self]
        exact ⟨rfl, rfl, h19, by show lo < hi + 1; omega, by show hi + 1 < 2 ^ 61; omega, hser⟩
  · intro u hu hne
    refine ⟨⟨rfl, rfl, rfl, rfl, rfl⟩, ⟨rfl, fun _ _ => ⟨rfl, rfl, rfl, rfl, rfl⟩⟩, ⟨?_, fun k hk => ?_⟩⟩
    · show va_up (s.2.1 21) (nI t).toNatClampNeg _ u = _
      rw [ec, va_up_ne _ _ hne]
    · show va_up (s.2.2 22) (nI (2048 * t + x.2.2.length)).toNatClampNeg (lN lo) (2048 * u + k) = _ ∧ va_up (s.2.2 23) (nI (2048 * t + x.2.2.length)).toNatClampNeg (lN hi) (2048 * u + k) = _ ∧ va_up (s.2.1 24) (nI (2048 * t + x.2.2.length)).toNatClampNeg (s.1 19) (2048 * u + k) = _
      rw [ek, va_up_ne _ _ (by omega), va_up_ne _ _ (by omega), va_up_ne _ _ (by omega)]
      exact ⟨rfl, rfl, rfl⟩
  · refine ⟨fun _ _ => rfl, fun i hi => ?_⟩
    simp only [List.mem_cons, List.not_mem_nil, or_false, not_or] at hi
    show (if i = 21 then _ else if i = 24 then _ else s.2.1 i) = _ ∧ (if i = 23 then _ else if i = 22 then _ else s.2.2 i) = _
    rw [if_neg hi.1, if_neg hi.2.2.2, if_neg hi.2.2.1, if_neg hi.2.1]
    exact ⟨rfl, rfl⟩
/-- the readings behind a reading of a key -/
def s_rdk (counts : Bool) (MC : List k_CH) (MR : List (Nat × Nat × Nat)) (c ser : Nat) : List (Nat × Nat × Nat) := if counts = true ∧ s_ownS MC ser c (c + 1) = false then MR ++ [(c, c + 1, ser)] else MR
theorem c_X12_reads (ok : k_ok G l) {b : Nat} {s : m_S} {h : k_H} {KM : List k_K2} {L : List k_E4} {n t c ser : Nat} {x : s_X} {counts : Bool} (hk : m_st s KM L n) (ht : t < 4) (hx : m_tx s t x) (h19 : s.1 19 = nI ser) (hser : ser < 2 ^ 30) (hlen : x.2.2.length < 2048) (hc : c < 2 ^ 60) :
    k_ctv (tX12_reads G l) [vR (some b), vI (nI t), vJ (lN c), vI (kB counts)] (m_hp b s h) (m_pv b h (fun s1 => m_seen s1 (s_see c x.2.1 (r_val c x.1.2.2.1 L, false)) ∧ m_tx s1 t (x.1, x.2.1, s_rdk counts x.2.1 x.2.2 c ser) ∧ m_ft t s s1 ∧ m_fr [33, 34, 35] [21, 22, 23, 24] s s1)) := by
  refine k_ctv_of (eX12_reads ok.2 ?_)
  have fin : ∀ (r : m_S) (MR : List (Nat × Nat × Nat)), m_st r KM L n → m_tx r t (x.1, x.2.1, MR) → MR = s_rdk counts x.2.1 x.2.2 c ser → m_ft t s r → m_fr [] [21, 22, 23, 24] s r →
      k_X (jX12_reads G l (m_hp b s h)) (m_hp b r h) 26 [(0, vR (some b)), (1, vI (nI t)), (2, vJ (lN c))] [] (q_v (m_pv b h (fun s1 => m_seen s1 (s_see c x.2.1 (r_val c x.1.2.2.1 L, false)) ∧ m_tx s1 t (x.1, x.2.1, s_rdk counts x.2.1 x.2.2 c ser) ∧ m_ft t s s1 ∧ m_fr [33, 34, 35] [21, 22, 23, 24] s s1))) := by
    intro r MR hkr hxr hMR hft hf
    refine mX12_reads_26 (c_X12_sees ok hkr ht hxr.2.2.1 hxr.1.2.2.1 (by have := hxr.2.1.1; omega) (by omega)) ?_
    rintro r2 ⟨hz, hf2⟩
    refine bX12_reads_32 ⟨rfl, r2, rfl, hz, ?_, m_ft_trans hft (m_ft_fr hf2 (fun i _ _ => by simp)), m_fr_trans (m_fr_mono hf (by simp) (by simp)) (m_fr_mono hf2 (by simp) (by simp))⟩
    rw [← hMR]
    exact m_tx_tk hxr (m_tk_fr hf2 (fun i _ _ => by simp))
  refine bX12_reads_0 (fun c1 => ?_) (fun c1 => ?_)
  · rw [kB_0] at c1
    exact fin s x.2.2 hk hx (by unfold s_rdk; rw [c1, if_neg (by simp)]) (m_ft_refl _ _) (m_fr_refl _ _ _)
  · rw [kB_n0] at c1
    refine mX12_reads_5 (by rw [h19]; exact c_X12_isOwn ok ht hx.2.2.1 (by omega) (by omega) (by omega)) ?_
    rintro _ _ ⟨hr, rfl⟩
    rw [hr]
    refine bX12_reads_16 (fun c2 => ?_) (fun c2 => ?_)
    · rw [kB_n0] at c2
      exact fin s x.2.2 hk hx (by unfold s_rdk; rw [c2, if_neg (by simp)]) (m_ft_refl _ _) (m_fr_refl _ _ _)
    · rw [kB_0] at c2
      refine mX12_reads_19 (c_X12_putsDown ok ht hx h19 hser hlen (Nat.le_refl _) hc) ?_
      rintro r2 ⟨hx2, hft, hf2⟩
      exact fin r2 _ (m_st_fr hk hf2 (by simp) (fun i h1 h2 => by simp; omega)) hx2 (by unfold s_rdk; rw [if_pos ⟨c1, c2⟩]) hft hf2
def s_vis (z : Option Int32 × Bool) : Bool := z.1.isSome && !z.2
theorem c_X12_isSeen (ok : k_ok G l) {b : Nat} {s : m_S} {h : k_H} {KM : List k_K2} {L : List k_E4} {n t c : Nat} {x : s_X} (hk : m_st s KM L n) (ht : t < 4) (hx : m_tx s t x) (hc : c < 2 ^ 62) :
    k_cti (tX12_isSeen G l) [vR (some b), vI (nI t), vJ (lN c)] (m_hp b s h) (m_p b h (fun s1 v => v = kB (s_vis (s_see c x.2.1 (r_val c x.1.2.2.1 L, false))) ∧ m_fr [33, 34, 35] [] s s1)) := by
  refine k_cti_of (eX12_isSeen ok.2 (mX12_isSeen_0 (c_X12_sees ok hk ht hx.2.2.1 hx.1.2.2.1 (by have := hx.2.1.1; omega) hc) ?_))
  rintro r2 ⟨⟨z1, z2, z3⟩, hf2⟩
  generalize s_see c x.2.1 (r_val c x.1.2.2.1 L, false) = z at z1 z2 z3
  refine mX12_isSeen_6 (fun c1 => ?_) (fun c1 => ?_)
  · rw [z1, kB_0] at c1
    exact bX12_isSeen_24 (bX12_isSeen_25 (Or.inl rfl) ⟨_, rfl, r2, rfl, by unfold s_vis; rw [c1]; rfl, hf2⟩)
  · rw [z1, kB_n0] at c1
    refine mX12_isSeen_13 (fun c2 => ?_) (fun c2 => ?_)
    · rw [z3, kB_n0] at c2
      exact bX12_isSeen_24 (bX12_isSeen_25 (Or.inl rfl) ⟨_, rfl, r2, rfl, by unfold s_vis; rw [c2]; simp [kB], hf2⟩)
    · rw [z3, kB_0] at c2
      exact bX12_isSeen_20 (bX12_isSeen_25 (Or.inr rfl) ⟨_, rfl, r2, rfl, by unfold s_vis; rw [c1, c2]; rfl, hf2⟩)
theorem c_X12_isShut (ok : k_ok G l) {b : Nat} {s : m_S} {h : k_H} {t : Nat} {x : s_X} (ht : t < 4) (hx : m_tx s t x) :
    k_cti (tX12_isShut G l) [vR (some b), vI (nI t)] (m_hp b s h) (m_p b h (fun s1 v => s1 = s ∧ v = kB (!x.1.1 || decide (12 ≤ x.2.1.length)))) := by
  have ec : (nI t).toNatClampNeg = t := nI_clamp (by omega)
  have y : vp_in (nI t) 4 := m_ii ht (by omega)
  obtain ⟨⟨a1, a2, a3, a4, a5⟩, hb, ⟨q1, q2, q3⟩, ⟨p1, p2, p3⟩⟩ := hx
  refine k_cti_of (eX12_isShut ok.2 (mX12_isShut_0 y (fun c1 => ?_) (fun c1 => ?_)))
  · rw [ec, a1, kB_0] at c1
    exact bX12_isShut_20 (bX12_isShut_25 (Or.inr rfl) ⟨_, rfl, s, rfl, rfl, by rw [c1]; rfl⟩)
  · rw [ec, a1, kB_n0] at c1
    refine mX12_isShut_9 y (fun c2 => ?_) (fun c2 => ?_)
    · rw [ec, q1] at c2
      have c3 := (nI_ltI (b := 12) (by omega) (by omega)).mp c2
      exact bX12_isShut_24 (bX12_isShut_25 (Or.inl rfl) ⟨_, rfl, s, rfl, rfl, by rw [c1, decide_eq_false (show ¬ 12 ≤ x.2.1.length by omega)]; rfl⟩)
    · rw [ec, q1] at c2
      have c3 : ¬ x.2.1.length < 12 := fun z => c2 ((nI_ltI (b := 12) (by omega) (by omega)).mpr z)
      exact bX12_isShut_20 (bX12_isShut_25 (Or.inr rfl) ⟨_, rfl, s, rfl, rfl, by rw [decide_eq_true (show 12 ≤ x.2.1.length by omega)]; simp [kB]⟩)
theorem c_X12_keeps (ok : k_ok G l) {b : Nat} {s : m_S} {h : k_H} {KM : List k_K2} {L : List k_E4} {n t ser : Nat} {x : s_X} {y : k_CH} (hk : m_st s KM L n) (ht : t < 4) (hx : m_tx s t x) (h19 : s.1 19 = nI ser) (hser : ser + 1 < 2 ^ 30) (hlen : x.2.1.length < 4096) (hy : m_wc y) (hy1 : y.1 = ser + 1) (hKM : m_ck y < 6 → (m_ins y.2.2.1 KM).length ≤ 12000) :
    k_ctv (tX12_keeps G l) [vR (some b), vI (nI t), vI (m_ck y), vJ (lN y.2.2.1), vJ (lN (y.2.2.2.1 - 1)), vI (m_cv y)] (m_hp b s h) (m_pv b h (fun s1 => m_st s1 (if m_ck y < 6 then m_ins y.2.2.1 KM else KM) L n ∧ s1.1 19 = nI (ser + 1) ∧ m_tx s1 t (x.1, x.2.1 ++ [y], x.2.2) ∧ m_ft t s s1 ∧ m_fr [2, 19] [1, 2, 15, 16, 17, 18, 19, 20] s s1)) := by
  have ec : (nI t).toNatClampNeg = t := nI_clamp (by omega)
  have yt : vp_in (nI t) 4 := m_ii ht (by omega)
  obtain ⟨⟨a1, a2, a3, a4, a5⟩, hb, ⟨q1, q2, q3⟩, ⟨p1, p2, p3⟩⟩ := id hx
  have yk : vp_in (nI (4096 * t + x.2.1.length)) 16384 := m_ii (by omega) (by omega)
  have ek : (nI (4096 * t + x.2.1.length)).toNatClampNeg = 4096 * t + x.2.1.length := nI_clamp (by omega)
  refine k_ctv_of (eX12_keeps ok.2 (mX12_keeps_0 yt (by rw [ec, q1]; exact c_X12_changeAt ok t x.2.1.length) ?_))
  rintro _ _ ⟨hr, rfl⟩
  rw [hr]
  refine mX12_keeps_11 (mX12_keeps_23 yk (mX12_keeps_31 yk (mX12_keeps_39 yk (mX12_keeps_48 yk (mX12_keeps_57 yk (mX12_keeps_68 yt ?_))))))
  rw [ek, ec]
  -- what stands then
  have main : ∀ r : m_S, (r.1 19 = nI (ser + 1) ∧ ∀ k, k ≠ 19 → r.1 k = s.1 k) → r.2.1 16 = va_up (s.2.1 16) (4096 * t + x.2.1.length) (m_ck y) → r.2.2 17 = va_up (s.2.2 17) (4096 * t + x.2.1.length) (lN y.2.2.1) → r.2.2 18 = va_up (s.2.2 18) (4096 * t + x.2.1.length) (lN (y.2.2.2.1 - 1)) → r.2.1 19 = va_up (s.2.1 19) (4096 * t + x.2.1.length) (m_cv y) → r.2.1 20 = va_up (s.2.1 20) (4096 * t + x.2.1.length) (nI (ser + 1)) → r.2.1 15 = va_up (s.2.1 15) t (nI (x.2.1.length + 1)) →
      m_fr [19] [15, 16, 17, 18, 19, 20] s r → m_st r KM L n ∧ m_tx r t (x.1, x.2.1 ++ [y], x.2.2) ∧ m_ft t s r := by
    intro r h1 h16 h17 h18 h19' h20 h15 hf
    refine ⟨m_st_fr hk hf (by simp) (fun i h1 h2 => by simp; omega), ⟨?_, hb, ⟨?_, by simp; omega, fun k z hz => ?_⟩, ?_⟩, fun u hu hne => ?_⟩
    · show r.2.1 10 t = _ ∧ r.2.1 11 t = _ ∧ r.2.1 12 t = _ ∧ r.2.1 13 t = _ ∧ r.2.1 14 t = _
      rw [(hf.2 10 (by simp)).1, (hf.2 11 (by simp)).1, (hf.2 12 (by simp)).1, (hf.2 13 (by simp)).1, (hf.2 14 (by simp)).1]
      exact ⟨a1, a2, a3, a4, a5⟩
    · rw [h15, va_up_self, List.length_append]; rfl
    · rw [h16, h17, h18, h19', h20]
      by_cases e : k < x.2.1.length
      · rw [List.getElem?_append_left e] at hz
        rw [va_up_ne _ _ (by omega), va_up_ne _ _ (by omega), va_up_ne _ _ (by omega), va_up_ne _ _ (by omega), va_up_ne _ _ (by omega)]
        exact q3 _ _ hz
      · have e2 : k = x.2.1.length := by
          have := (List.getElem?_eq_some_iff.mp hz).1
          simp at this; omega
        rw [e2] at hz ⊢
        simp at hz
        subst hz
        rw [va_up_self, va_up_self, va_up_self, va_up_self, va_up_self]
        exact ⟨hy, rfl, rfl, rfl, rfl, by rw [hy1]⟩
    · show r.2.1 21 t = _ ∧ _ ∧ ∀ k z, _ → r.2.2 22 _ = _ ∧ r.2.2 23 _ = _ ∧ r.2.1 24 _ = _ ∧ _
      rw [(hf.2 21 (by simp)).1, (hf.2 22 (by simp)).2, (hf.2 23 (by simp)).2, (hf.2 24 (by simp)).1]
      exact ⟨p1, p2, p3⟩
    · unfold m_tk
      rw [(hf.2 10 (by simp)).1, (hf.2 11 (by simp)).1, (hf.2 12 (by simp)).1, (hf.2 13 (by simp)).1, (hf.2 14 (by simp)).1, (hf.2 21 (by simp)).1, (hf.2 22 (by simp)).2, (hf.2 23 (by simp)).2, (hf.2 24 (by simp)).1, h15, h16, h17, h18, h19', h20]
      refine ⟨⟨rfl, rfl, rfl, rfl, rfl⟩, ⟨va_up_ne _ _ hne, fun k hk9 => ?_⟩, ⟨rfl, fun _ _ => ⟨rfl, rfl, rfl⟩⟩⟩
      rw [va_up_ne _ _ (by omega), va_up_ne _ _ (by omega), va_up_ne _ _ (by omega), va_up_ne _ _ (by omega), va_up_ne _ _ (by omega)]
      exact ⟨rfl, rfl, rfl, rfl, rfl⟩
  have e19 : s.1 19 + 1 = nI (ser + 1) := by rw [h19, nI_1]
  have e15 : s.2.1 15 t + 1 = nI (x.2.1.length + 1) := by rw [q1, nI_1]
  generalize hR : m_sa (m_sa (m_sa (m_sj (m_sj (m_sa (m_si s 19 (s.1 19 + 1)) 16 _) 17 _) 18 _) 19 _) 20 _) 15 _ = r
  have hfr : m_fr [19] [15, 16, 17, 18, 19, 20] s r := by
    rw [← hR]
    refine ⟨fun k hk9 => ?_, fun i hi => ?_⟩
    · show (if k = 19 then _ else s.1 k) = _
      rw [if_neg (by simpa using hk9)]
    · simp only [List.mem_cons, List.not_mem_nil, or_false, not_or] at hi
      show (if i = 15 then _ else if i = 20 then _ else if i = 19 then _ else if i = 16 then _ else s.2.1 i) = _ ∧ (if i = 18 then _ else if i = 17 then _ else s.2.2 i) = _
      rw [if_neg hi.1, if_neg hi.2.2.2.2.2, if_neg hi.2.2.2.2.1, if_neg hi.2.1, if_neg hi.2.2.2.1, if_neg hi.2.2.1]
      exact ⟨rfl, rfl⟩
  have hr19 : r.1 19 = nI (ser + 1) := by rw [← hR, ← e19]; rfl
  obtain ⟨m1, m2, m3⟩ := main r ⟨hr19, fun k hk9 => hfr.1 k (by simp [hk9])⟩ (by rw [← hR]; rfl) (by rw [← hR]; rfl) (by rw [← hR]; rfl) (by rw [← hR]; rfl) (by rw [← hR, ← e19]; rfl) (by rw [← hR, ← e15]; rfl) hfr
  refine bX12_keeps_78 (fun c1 => ?_) (fun c1 => ?_)
  · have c2 : ¬ m_ck y < 6 := Int32.not_lt.mpr c1
    rw [if_neg c2]
    exact bX12_keeps_91 ⟨rfl, r, rfl, m1, hr19, m2, m3, m_fr_mono hfr (by simp) (by simp)⟩
  · have c2 : m_ck y < 6 := Int32.not_le.mp c1
    rw [if_pos c2]
    refine mX12_keeps_84 (c_X12_name ok m1.1 m1.2.2.2.2.2.2.2 hy.2.2.2.2.1 (hKM c2)) ?_
    rintro r2 _ ⟨rfl, hks, hf2⟩
    refine bX12_keeps_89 (bX12_keeps_91 ⟨rfl, r2, rfl, ?_, by rw [hf2.1 19 (by simp), hr19], m_tx_tk m2 (m_tk_fr hf2 (fun i h1 h2 => by simp; omega)), m_ft_trans m3 (m_ft_fr hf2 (fun i h1 h2 => by simp; omega)), m_fr_trans (m_fr_mono hfr (by simp) (by simp)) (m_fr_mono hf2 (by simp) (by simp))⟩)
    obtain ⟨k1, k2, k3, k4, k5, k6, k7, k8⟩ := m1
    refine ⟨hks, by rw [hf2.1 5 (by simp)]; exact k2, k3, m_log_keep (fun i _ => ?_) k4, by rw [hf2.1 0 (by simp)]; exact k5, k6, k7, fun z hz => ?_⟩
    · rw [(hf2.2 3 (by simp)).1, (hf2.2 5 (by simp)).1, (hf2.2 4 (by simp)).1, (hf2.2 6 (by simp)).1]
      exact ⟨rfl, rfl, rfl, rfl⟩
    · obtain ⟨a, ha⟩ := k8 z hz
      exact ⟨a, m_ins_mem ha⟩
end MX
