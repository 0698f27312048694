/-! WHAT A READING MET, in the reference -/
def s_met1 (MC : List k_CH) (ser lo hi ra : Nat) (L : List k_E4) : Bool := L.any (fun x => decide (ra < x.2.2.1) && decide (lo ≤ x.2.1) && decide (x.2.1 < hi) && !s_ownS MC ser x.2.1 (x.2.1 + 1))
def s_met2 (MC : List k_CH) (ser lo hi ra : Nat) (WS : List (Nat × Nat × Nat)) : Bool := WS.any (fun w => decide (ra < w.2.2) && decide (max lo w.1 < min hi w.2.1) && !s_ownS MC ser (max lo w.1) (min hi w.2.1))
def s_met (MC : List k_CH) (ra : Nat) (L : List k_E4) (WS : List (Nat × Nat × Nat)) (r : Nat × Nat × Nat) : Bool := s_met1 MC r.2.2 r.1 r.2.1 ra L || s_met2 MC r.2.2 r.1 r.2.1 ra WS
def s_told (o : Option Nat) : Int32 := match o with
  | some k => nI k
  | none => -2147483648
theorem r_newest {c : Nat} {L : List k_E4} {x : k_E4} (s : L.Pairwise (fun x y => y.2.2.1 ≤ x.2.2.1)) (e : L.find? (fun x => x.2.1 == c) = some x) : x.2.1 = c ∧ x ∈ L ∧ ∀ y ∈ L, y.2.1 = c → y.2.2.1 ≤ x.2.2.1 := by
  obtain ⟨h1, as, bs, h2, h3⟩ := List.find?_eq_some_iff_append.mp e
  refine ⟨by simpa using h1, List.mem_of_find?_eq_some e, fun y hy hc => ?_⟩
  rw [h2] at hy s
  rcases List.mem_append.mp hy with hy | hy
  · have := h3 y hy
    simp [hc] at this
  · rcases List.mem_cons.mp hy with rfl | hy
    · exact Nat.le_refl _
    · exact (List.pairwise_cons.mp (List.pairwise_append.mp s).2.1).1 y hy
section MM
variable {G : k_G} {l : Launch}
theorem c_X12_meets (ok : k_ok G l) {b : Nat} {s : m_S} {h : k_H} {t k lo hi : Nat} {x : s_X} {r : Nat × Nat × Nat} (ht : t < 4) (hx : m_tx s t x) (hr : x.2.2[k]? = some r) (hlo : lo < 2 ^ 60) (hhi : hi < 2 ^ 60) :
    k_cti (tX12_meets G l) [vR (some b), vI (nI t), vI (nI (2048 * t + k)), vJ (lN lo), vJ (lN hi)] (m_hp b s h) (m_p b h (fun s1 v => s1 = s ∧ v = kB (decide (max r.1 lo < min r.2.1 (hi + 1)) && !s_ownS x.2.1 r.2.2 (max r.1 lo) (min r.2.1 (hi + 1))))) := by
  obtain ⟨p1, p2, p3⟩ := hx.2.2.2
  obtain ⟨g22, g23, g24, w1, w2, w3⟩ := p3 _ _ hr
  have hk := (List.getElem?_eq_some_iff.mp hr).1
  have ek : (nI (2048 * t + k)).toNatClampNeg = 2048 * t + k := nI_clamp (by omega)
  have yk : vp_in (nI (2048 * t + k)) 8192 := m_ii (by omega) (by omega)
  refine k_cti_of (eX12_meets ok.2 ?_)
  have st46 : ∀ a m : Nat, a = max r.1 lo → m + 1 = min r.2.1 (hi + 1) → k_X (jX12_meets G l (m_hp b s h)) (m_hp b s h) 46 [(0, vR (some b)), (1, vI (nI t)), (2, vI (nI (2048 * t + k))), (7, vJ (lN a))] [vJ (lN m)] (q_i (m_p b h (fun s1 v => s1 = s ∧ v = kB (decide (max r.1 lo < min r.2.1 (hi + 1)) && !s_ownS x.2.1 r.2.2 (max r.1 lo) (min r.2.1 (hi + 1)))))) := by
    intro a m ha hm
    rw [← ha, ← hm]
    have hb1 : a < 2 ^ 61 := by omega
    have hb2 : m < 2 ^ 61 := by omega
    refine bX12_meets_46 (fun c1 => ?_) (fun c1 => ?_)
    · have c2 := (lX_lt (by omega) (by omega)).mp c1
      refine bX12_meets_78 (bX12_meets_79 (Or.inl rfl) ⟨_, rfl, s, rfl, rfl, ?_⟩)
      rw [decide_eq_false (show ¬ a < m + 1 by omega)]; rfl
    · have c2 : ¬ m < a := fun z => c1 ((lX_lt (by omega) (by omega)).mpr z)
      refine mX12_meets_56 yk (by rw [ek, g24]; exact c_X12_isOwn ok ht hx.2.2.1 (by omega) (by omega) (by omega)) ?_
      rintro _ _ ⟨hr9, rfl⟩
      rw [hr9, decide_eq_true (show a < m + 1 by omega), Bool.true_and]
      refine bX12_meets_71 (fun c3 => ?_) (fun c3 => ?_)
      · rw [kB_n0] at c3
        exact bX12_meets_78 (bX12_meets_79 (Or.inl rfl) ⟨_, rfl, s, rfl, rfl, by rw [c3]; rfl⟩)
      · rw [kB_0] at c3
        exact bX12_meets_74 (bX12_meets_79 (Or.inr rfl) ⟨_, rfl, s, rfl, rfl, by rw [c3]; rfl⟩)
  have st21 : ∀ a : Nat, a = max r.1 lo → k_X (jX12_meets G l (m_hp b s h)) (m_hp b s h) 21 [(0, vR (some b)), (1, vI (nI t)), (2, vI (nI (2048 * t + k))), (5, vJ (lN hi))] [vJ (lN a)] (q_i (m_p b h (fun s1 v => s1 = s ∧ v = kB (decide (max r.1 lo < min r.2.1 (hi + 1)) && !s_ownS x.2.1 r.2.2 (max r.1 lo) (min r.2.1 (hi + 1)))))) := by
    intro a ha
    refine mX12_meets_21 yk (fun c1 => ?_) (fun c1 => ?_)
    · rw [ek, g23] at c1
      have c2 := (lX_le (by omega) (by omega)).mp c1
      refine mX12_meets_40 yk ?_
      rw [ek, g23]
      exact st46 a (r.2.1 - 1) ha (by omega)
    · rw [ek, g23] at c1
      have c2 : ¬ r.2.1 - 1 ≤ hi := fun z => c1 ((lX_le (by omega) (by omega)).mpr z)
      exact bX12_meets_35 (st46 a hi ha (by omega))
  refine mX12_meets_0 yk (fun c1 => ?_) (fun c1 => ?_)
  · rw [ek, g22] at c1
    have c2 := (lX_le (by omega) (by omega)).mp c1
    refine mX12_meets_15 yk ?_
    rw [ek, g22]
    exact st21 r.1 (by omega)
  · rw [ek, g22] at c1
    have c2 : ¬ lo ≤ r.1 := fun z => c1 ((lX_le (by omega) (by omega)).mpr z)
    exact bX12_meets_11 (st21 lo (by omega))
theorem c_X12_isMet (ok : k_ok G l) {b : Nat} {s : m_S} {h : k_H} {KM : List k_K2} {L : List k_E4} {WS : List (Nat × Nat × Nat)} {n t k : Nat} {x : s_X} {r : Nat × Nat × Nat} (hk : m_st s KM L n) (hw : m_rg s WS) (hWb : ∀ w ∈ WS, w.1 < w.2.1 ∧ w.2.1 < 2 ^ 60 ∧ w.2.2 < 2 ^ 20) (sL : L.Pairwise (fun x y => y.2.2.1 ≤ x.2.2.1)) (ht : t < 4) (hx : m_tx s t x) (hr : x.2.2[k]? = some r) :
    k_cti (tX12_isMet G l) [vR (some b), vI (nI t), vI (nI (2048 * t + k))] (m_hp b s h) (m_p b h (fun s1 v => s1 = s ∧ v = kB (s_met x.2.1 x.1.2.2.1 L WS r))) := by
  obtain ⟨p1, p2, p3⟩ := hx.2.2.2
  obtain ⟨g22, g23, g24, w1, w2, w3⟩ := p3 _ _ hr
  have hk9 := (List.getElem?_eq_some_iff.mp hr).1
  have ek : (nI (2048 * t + k)).toNatClampNeg = 2048 * t + k := nI_clamp (by omega)
  have yk : vp_in (nI (2048 * t + k)) 8192 := m_ii (by omega) (by omega)
  have et : (nI t).toNatClampNeg = t := nI_clamp (by omega)
  have yt : vp_in (nI t) 4 := m_ii ht (by omega)
  have hra : s.2.1 12 t = nI x.1.2.2.1 := hx.1.2.2.1
  have hrb := hx.2.1.1
  obtain ⟨⟨e1, e2, e3, e4⟩, -, hLl, hlog, e0, en, hv, hin⟩ := id hk
  obtain ⟨v1, v2, v3⟩ := id hw
  refine k_cti_of (eX12_isMet ok.2 (mX12_isMet_0 yk (by rw [ek, g22]; exact c_X12_placeOf ok hk.1 (by omega)) ?_))
  rintro _ _ ⟨hr9, rfl⟩
  rw [hr9]
  refine bX12_isMet_10 ?_
  -- the ranges
  have ranges : s_met1 x.2.1 r.2.2 r.1 r.2.1 x.1.2.2.1 L = false → ∀ (d i : Nat), WS.length - i = d → i ≤ WS.length → s_met2 x.2.1 r.2.2 r.1 r.2.1 x.1.2.2.1 WS = s_met2 x.2.1 r.2.2 r.1 r.2.1 x.1.2.2.1 (WS.drop i) →
      k_X (jX12_isMet G l (m_hp b s h)) (m_hp b s h) 107 [(0, vR (some b)), (1, vI (nI t)), (2, vI (nI (2048 * t + k))), (3, vI (nI i))] [] (q_i (m_p b h (fun s1 v => s1 = s ∧ v = kB (s_met x.2.1 x.1.2.2.1 L WS r)))) := by
    intro hm1 d
    induction d with
    | zero =>
      intro i hd hi he
      refine mX12_isMet_107 (fun _ => bX12_isMet_159 ⟨_, rfl, s, rfl, rfl, ?_⟩) (fun z => absurd (by rw [v1]; exact nI_le (by omega) (by omega)) z)
      unfold s_met
      rw [hm1, he, List.drop_eq_nil_of_le (by omega)]
      rfl
    | succ d ih =>
      intro i hd hi he
      have hlt : i < WS.length := by omega
      obtain ⟨w, hwi⟩ : ∃ w, WS[i]? = some w := ⟨_, List.getElem?_eq_getElem hlt⟩
      obtain ⟨g7, g8, g9, b1, b2, b3⟩ := v3 _ _ hwi
      have hwb := hWb w (List.mem_of_getElem? hwi)
      have hdrop : WS.drop i = w :: WS.drop (i + 1) := by
        rw [List.drop_eq_getElem_cons hlt]
        congr 1
        exact (List.getElem?_eq_some_iff.mp hwi).2
      rw [hdrop] at he
      have he2 : s_met2 x.2.1 r.2.2 r.1 r.2.1 x.1.2.2.1 (w :: WS.drop (i + 1)) = ((decide (x.1.2.2.1 < w.2.2) && decide (max r.1 w.1 < min r.2.1 w.2.1) && !s_ownS x.2.1 r.2.2 (max r.1 w.1) (min r.2.1 w.2.1)) || s_met2 x.2.1 r.2.2 r.1 r.2.1 x.1.2.2.1 (WS.drop (i + 1))) := List.any_cons
      rw [he2] at he
      have yi : vp_in (nI i) 8192 := m_ii (by omega) (by omega)
      have ei : (nI i).toNatClampNeg = i := nI_clamp (by omega)
      refine mX12_isMet_107 (fun z => absurd z (by rw [v1]; exact nI_ge hlt (by omega))) (fun _ => ?_)
      have nxt : (decide (x.1.2.2.1 < w.2.2) && decide (max r.1 w.1 < min r.2.1 w.2.1) && !s_ownS x.2.1 r.2.2 (max r.1 w.1) (min r.2.1 w.2.1)) = false → k_X (jX12_isMet G l (m_hp b s h)) (m_hp b s h) 153 [(0, vR (some b)), (1, vI (nI t)), (2, vI (nI (2048 * t + k))), (3, vI (nI i))] [] (q_i (m_p b h (fun s1 v => s1 = s ∧ v = kB (s_met x.2.1 x.1.2.2.1 L WS r)))) := fun hf => by
        refine bX12_isMet_153 ?_
        rw [nI_1]
        rw [hf, Bool.false_or] at he
        exact ih (i + 1) (by omega) (by omega) he
      refine mX12_isMet_115 yi yt (fun c1 => ?_) (fun c1 => ?_)
      · rw [ei, et, g7, hra] at c1
        have c2 := (nI_leI (by omega) (by omega)).mp c1
        exact nxt (by rw [decide_eq_false (show ¬ x.1.2.2.1 < w.2.2 by omega)]; rfl)
      · rw [ei, et, g7, hra] at c1
        have c2 : ¬ w.2.2 ≤ x.1.2.2.1 := fun z => c1 ((nI_leI (by omega) (by omega)).mpr z)
        refine mX12_isMet_130 yi yi (by rw [ei, g8, g9]; exact c_X12_meets ok ht hx hr (by omega) (by omega)) ?_
        rintro _ _ ⟨hr8, rfl⟩
        rw [hr8, show w.2.1 - 1 + 1 = w.2.1 by omega]
        refine bX12_isMet_148 (fun c3 => ?_) (fun c3 => ?_)
        · rw [kB_0] at c3
          exact nxt (by rw [Bool.and_assoc, c3, Bool.and_false])
        · rw [kB_n0] at c3
          refine bX12_isMet_151 ⟨_, rfl, s, rfl, rfl, ?_⟩
          unfold s_met
          rw [he, Bool.and_assoc, c3, decide_eq_true (show x.1.2.2.1 < w.2.2 by omega)]
          simp [kB]
  -- the keys
  have hmet : ∀ (c : Nat), (∃ y ∈ L, y.2.1 = c ∧ x.1.2.2.1 < y.2.2.1) → r.1 ≤ c → c < r.2.1 → s_ownS x.2.1 r.2.2 c (c + 1) = false → s_met1 x.2.1 r.2.2 r.1 r.2.1 x.1.2.2.1 L = true := by
    rintro c ⟨y, hy, rfl, hyv⟩ h1 h2 h3
    unfold s_met1
    rw [List.any_eq_true]
    exact ⟨y, hy, by simp [hyv, h1, h2, h3]⟩
  have fin : (∀ (j : Nat) (y : k_K2), KM[j]? = some y → ¬ ((∃ z ∈ L, z.2.1 = y.1 ∧ x.1.2.2.1 < z.2.2.1) ∧ r.1 ≤ y.1 ∧ y.1 < r.2.1 ∧ s_ownS x.2.1 r.2.2 y.1 (y.1 + 1) = false)) →
      k_X (jX12_isMet G l (m_hp b s h)) (m_hp b s h) 105 [(0, vR (some b)), (1, vI (nI t)), (2, vI (nI (2048 * t + k)))] [] (q_i (m_p b h (fun s1 v => s1 = s ∧ v = kB (s_met x.2.1 x.1.2.2.1 L WS r)))) := by
    intro hno
    refine bX12_isMet_105 (ranges ?_ WS.length 0 rfl (Nat.zero_le _) rfl)
    cases e : s_met1 x.2.1 r.2.2 r.1 r.2.1 x.1.2.2.1 L with
    | false => rfl
    | true =>
      exfalso
      unfold s_met1 at e
      rw [List.any_eq_true] at e
      obtain ⟨y, hy, hy2⟩ := e
      simp only [Bool.and_eq_true, decide_eq_true_eq, Bool.not_eq_true'] at hy2
      obtain ⟨a, ha⟩ := hin y hy
      obtain ⟨j, hj⟩ := List.getElem?_of_mem ha
      exact hno j _ hj ⟨⟨y, hy, rfl, hy2.1.1.1⟩, hy2.1.1.2, hy2.1.2, hy2.2⟩
  have keys : ∀ (d i : Nat), KM.length - i = d → i ≤ KM.length → (∀ (j : Nat) (y : k_K2), j < i → KM[j]? = some y → ¬ ((∃ z ∈ L, z.2.1 = y.1 ∧ x.1.2.2.1 < z.2.2.1) ∧ r.1 ≤ y.1 ∧ y.1 < r.2.1 ∧ s_ownS x.2.1 r.2.2 y.1 (y.1 + 1) = false)) → r_pl r.1 KM ≤ i →
      k_X (jX12_isMet G l (m_hp b s h)) (m_hp b s h) 11 [(0, vR (some b)), (1, vI (nI t)), (2, vI (nI (2048 * t + k))), (3, vI (nI i))] [] (q_i (m_p b h (fun s1 v => s1 = s ∧ v = kB (s_met x.2.1 x.1.2.2.1 L WS r)))) := by
    intro d
    induction d with
    | zero =>
      intro i hd hi hno hpl
      refine mX12_isMet_11 (fun _ => fin (fun j y hj => hno j y (by have := (List.getElem?_eq_some_iff.mp hj).1; omega) hj)) (fun z => absurd (by rw [e1]; exact nI_le (by omega) (by omega)) z)
    | succ d ih =>
      intro i hd hi hno hpl
      have hlt : i < KM.length := by omega
      obtain ⟨y, hy⟩ : ∃ y, KM[i]? = some y := ⟨_, List.getElem?_eq_getElem hlt⟩
      obtain ⟨y1, y2, y3⟩ := e3 _ _ hy
      have hylo : ¬ y.1 < r.1 := r_pl_ge e4 hpl hy
      have yi : vp_in (nI i) 12000 := m_ii (by omega) (by omega)
      have ei : (nI i).toNatClampNeg = i := nI_clamp (by omega)
      refine mX12_isMet_11 (fun z => absurd z (by rw [e1]; exact nI_ge hlt (by omega))) (fun _ => ?_)
      refine mX12_isMet_19 yi yk (fun c1 => ?_) (fun c1 => ?_)
      · rw [ek, g23, ei, y1] at c1
        have c2 := (lX_lt (by omega) (by omega)).mp c1
        refine fin (fun j z hj => ?_)
        by_cases e : j < i
        · exact hno j z e hj
        · rintro ⟨-, -, h3, -⟩
          by_cases e2 : j = i
          · subst e2; rw [hy] at hj; cases hj; omega
          · have := r_srt e4 (i := i) (j := j) (by omega) hy hj
            omega
      · rw [ek, g23, ei, y1] at c1
        have c2 : ¬ r.2.1 - 1 < y.1 := fun z => c1 ((lX_lt (by omega) (by omega)).mpr z)
        have nxt : ¬ ((∃ z ∈ L, z.2.1 = y.1 ∧ x.1.2.2.1 < z.2.2.1) ∧ r.1 ≤ y.1 ∧ y.1 < r.2.1 ∧ s_ownS x.2.1 r.2.2 y.1 (y.1 + 1) = false) → k_X (jX12_isMet G l (m_hp b s h)) (m_hp b s h) 99 [(0, vR (some b)), (1, vI (nI t)), (2, vI (nI (2048 * t + k))), (3, vI (nI i))] [] (q_i (m_p b h (fun s1 v => s1 = s ∧ v = kB (s_met x.2.1 x.1.2.2.1 L WS r)))) := fun hn => by
          refine bX12_isMet_99 ?_
          rw [nI_1]
          refine ih (i + 1) (by omega) (by omega) (fun j z hj hz => ?_) (by omega)
          by_cases e : j < i
          · exact hno j z e hz
          · have e2 : j = i := by omega
            subst e2
            rw [hy] at hz
            cases hz
            exact hn
        have no0 : (∀ z ∈ L, z.2.1 = y.1 → z.2.2.1 ≤ x.1.2.2.1) → k_X (jX12_isMet G l (m_hp b s h)) (m_hp b s h) 68 [(0, vR (some b)), (1, vI (nI t)), (2, vI (nI (2048 * t + k))), (3, vI (nI i))] [] (q_i (m_p b h (fun s1 v => s1 = s ∧ v = kB (s_met x.2.1 x.1.2.2.1 L WS r)))) := fun hn => by
          refine bX12_isMet_68 (bX12_isMet_69 (fun _ => nxt ?_) (fun z => absurd rfl z))
          rintro ⟨⟨z, hz, hz2, hz3⟩, -⟩
          have := hn z hz hz2
          omega
        refine mX12_isMet_35 yi (fun c3 => ?_) (fun c3 => ?_)
        · rw [ei, y2] at c3
          refine no0 (fun z hz hz2 => ?_)
          exfalso
          unfold m_hd r_fst at c3
          cases ef : L.find? (fun x => x.2.1 == y.1) with
          | none =>
            have := List.find?_eq_none.mp ef z hz
            simp [hz2] at this
          | some w =>
            rw [ef] at c3
            have := (m_log_mem hlog (List.mem_of_find?_eq_some ef)).1
            exact absurd c3 (nI_pos (n := w.1) (by omega))
        · rw [ei, y2] at c3
          cases ef : L.find? (fun x => x.2.1 == y.1) with
          | none =>
            exfalso
            unfold m_hd r_fst at c3
            rw [ef] at c3
            exact c3 nI_neg1
          | some w =>
            have ehd : m_hd y.1 L = nI w.1 := by unfold m_hd r_fst; rw [ef]; rfl
            obtain ⟨n1, n2, n3⟩ := r_newest sL ef
            obtain ⟨m1, m2, -, -⟩ := m_log_mem hlog n2
            have hvw := hv w n2
            refine mX12_isMet_44 yi (by rw [ei, y2, ehd]; exact m_ii (by omega) (by omega)) yt (fun c4 => ?_) (fun c4 => ?_)
            · rw [ei, y2, ehd, nI_clamp (by omega), m2, et, hra] at c4
              have c5 := (nI_leI (by omega) (by omega)).mp c4
              exact no0 (fun z hz hz2 => Nat.le_trans (n3 z hz hz2) c5)
            · rw [ei, y2, ehd, nI_clamp (by omega), m2, et, hra] at c4
              have c5 : ¬ w.2.2.1 ≤ x.1.2.2.1 := fun z => c4 ((nI_leI (by omega) (by omega)).mpr z)
              refine bX12_isMet_64 (bX12_isMet_69 (fun z => absurd z (by decide)) (fun _ => ?_))
              refine mX12_isMet_76 yi (by rw [ei, y1]; exact c_X12_meets ok ht hx hr (by omega) (by omega)) ?_
              rintro _ _ ⟨hr8, rfl⟩
              rw [hr8, show max r.1 y.1 = y.1 by omega, show min r.2.1 (y.1 + 1) = y.1 + 1 by omega, decide_eq_true (show y.1 < y.1 + 1 by omega), Bool.true_and]
              refine bX12_isMet_94 (fun c6 => nxt ?_) (fun c6 => ?_)
              · rw [kB_0] at c6
                rintro ⟨-, -, -, h4⟩
                rw [h4] at c6
                cases c6
              · rw [kB_n0] at c6
                refine bX12_isMet_97 ⟨_, rfl, s, rfl, rfl, ?_⟩
                have := hmet y.1 ⟨w, n2, n1, by omega⟩ (by omega) (by omega) (by simpa using c6)
                unfold s_met
                rw [this]; rfl
  exact keys _ (r_pl r.1 KM) rfl (r_pl_le _ _) (fun j y hj hy => by
    rintro ⟨-, h2, -, -⟩
    have := r_pl_lt hj hy
    omega) (Nat.le_refl _)
theorem c_X12_firstMet (ok : k_ok G l) {b : Nat} {s : m_S} {h : k_H} {KM : List k_K2} {L : List k_E4} {WS : List (Nat × Nat × Nat)} {n t : Nat} {x : s_X} (hk : m_st s KM L n) (hw : m_rg s WS) (hWb : ∀ w ∈ WS, w.1 < w.2.1 ∧ w.2.1 < 2 ^ 60 ∧ w.2.2 < 2 ^ 20) (sL : L.Pairwise (fun x y => y.2.2.1 ≤ x.2.2.1)) (ht : t < 4) (hx : m_tx s t x) :
    k_cti (tX12_firstMet G l) [vR (some b), vI (nI t)] (m_hp b s h) (m_p b h (fun s1 v => s1 = s ∧ v = s_told (x.2.2.findIdx? (s_met x.2.1 x.1.2.2.1 L WS)))) := by
  obtain ⟨p1, p2, p3⟩ := hx.2.2.2
  have et : (nI t).toNatClampNeg = t := nI_clamp (by omega)
  have yt : vp_in (nI t) 4 := m_ii ht (by omega)
  refine k_cti_of (eX12_firstMet ok.2 (bX12_firstMet_0 ?_))
  have key : ∀ (d i : Nat), x.2.2.length - i = d → i ≤ x.2.2.length → (∀ (j : Nat) (r : Nat × Nat × Nat), j < i → x.2.2[j]? = some r → s_met x.2.1 x.1.2.2.1 L WS r = false) →
      k_X (jX12_firstMet G l (m_hp b s h)) (m_hp b s h) 2 [(0, vR (some b)), (1, vI (nI t)), (2, vI (nI i))] [] (q_i (m_p b h (fun s1 v => s1 = s ∧ v = s_told (x.2.2.findIdx? (s_met x.2.1 x.1.2.2.1 L WS))))) := by
    intro d
    induction d with
    | zero =>
      intro i hd hi hno
      refine mX12_firstMet_2 yt (fun _ => bX12_firstMet_35 ⟨_, rfl, s, rfl, rfl, ?_⟩) (fun z => absurd (by rw [et, p1]; exact nI_le (by omega) (by omega)) z)
      have : x.2.2.findIdx? (s_met x.2.1 x.1.2.2.1 L WS) = none := by
        rw [List.findIdx?_eq_none_iff]
        intro r hr
        obtain ⟨j, hj⟩ := List.getElem?_of_mem hr
        exact hno j r (by have := (List.getElem?_eq_some_iff.mp hj).1; omega) hj
      rw [this]; rfl
    | succ d ih =>
      intro i hd hi hno
      have hlt : i < x.2.2.length := by omega
      obtain ⟨r, hr⟩ : ∃ r, x.2.2[i]? = some r := ⟨_, List.getElem?_eq_getElem hlt⟩
      have ea : 2048 * nI t + nI i = nI (2048 * t + i) := by rw [show (2048 : Int32) = nI 2048 from rfl, nI_mul, nI_add]
      refine mX12_firstMet_2 yt (fun z => absurd z (by rw [et, p1]; exact nI_ge hlt (by omega))) (fun _ => ?_)
      refine mX12_firstMet_12 (by rw [ea]; exact c_X12_isMet ok hk hw hWb sL ht hx hr) ?_
      rintro _ _ ⟨hr9, rfl⟩
      rw [hr9]
      refine bX12_firstMet_24 (fun c1 => ?_) (fun c1 => ?_)
      · rw [kB_0] at c1
        refine bX12_firstMet_29 ?_
        rw [nI_1]
        refine ih (i + 1) (by omega) (by omega) (fun j q hj hq => ?_)
        by_cases e : j < i
        · exact hno j q e hq
        · have e2 : j = i := by omega
          subst e2
          rw [hr] at hq
          cases hq
          exact c1
      · rw [kB_n0] at c1
        refine bX12_firstMet_27 ⟨_, rfl, s, rfl, rfl, ?_⟩
        have : x.2.2.findIdx? (s_met x.2.1 x.1.2.2.1 L WS) = some i := by
          rw [List.findIdx?_eq_some_iff_getElem]
          refine ⟨hlt, ?_, fun j hj => ?_⟩
          · rw [(List.getElem?_eq_some_iff.mp hr).2]; exact c1
          · have := hno j _ hj (List.getElem?_eq_getElem (by omega))
            rw [this]; decide
        rw [this]; rfl
  exact key _ 0 rfl (Nat.zero_le _) (fun j r hj => absurd hj (Nat.not_lt_zero _))
end MM
