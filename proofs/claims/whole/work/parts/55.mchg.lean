/-! CHANGES IN THE REFERENCE: their serial stands for the address -/
theorem nI_mul (a b : Nat) : nI a * nI b = nI (a * b) := by
  apply Int32.toBitVec_inj.mp
  show BitVec.ofNat 32 a * BitVec.ofNat 32 b = BitVec.ofNat 32 (a * b)
  exact (BitVec.ofNat_mul ..).symm
def m_ck (x : k_CH) : Int32 := if x.2.1 = 1 ∧ 1 < x.2.2.2.1 - x.2.2.1 then 7 else if x.2.1 = 6 ∧ x.2.2.1 / 121000000 = 996 then 8 else x.2.1
def m_cv (x : k_CH) : Int32 := if x.2.1 = 1 ∨ x.2.1 = 5 then 0 else x.2.2.2.2.1
def m_wc (x : k_CH) : Prop := (x.2.1 = 0 ∨ x.2.1 = 1 ∨ x.2.1 = 2 ∨ x.2.1 = 3 ∨ x.2.1 = 4 ∨ x.2.1 = 5 ∨ x.2.1 = 6) ∧ x.2.2.1 < x.2.2.2.1 ∧ x.2.2.2.1 < 2 ^ 61 ∧ (x.2.2.2.1 = x.2.2.1 + 1 ∨ x.2.1 = 1) ∧ x.2.2.1 < 1331000000000 ∧ x.1 < 2 ^ 30
def m_ch (s : m_S) (t : Nat) (MC : List k_CH) : Prop := s.2.1 15 t = nI MC.length ∧ MC.length ≤ 4096 ∧ ∀ (k : Nat) (x : k_CH), MC[k]? = some x → m_wc x ∧ s.2.1 16 (4096 * t + k) = m_ck x ∧ s.2.2 17 (4096 * t + k) = lN x.2.2.1 ∧ s.2.2 18 (4096 * t + k) = lN (x.2.2.2.1 - 1) ∧ s.2.1 19 (4096 * t + k) = m_cv x ∧ s.2.1 20 (4096 * t + k) = nI x.1
theorem m_ch_fr {A B : List Nat} {s s1 : m_S} {t : Nat} {MC : List k_CH} (h : m_ch s t MC) (f : m_fr A B s s1) (hB : ∀ i, 14 < i → i < 21 → i ∉ B) : m_ch s1 t MC := by
  obtain ⟨k1, k2, k3⟩ := h
  have r := fun i h1 h2 => f.2 i (hB i h1 h2)
  refine ⟨by rw [(r 15 (by omega) (by omega)).1]; exact k1, k2, fun k x hx => ?_⟩
  rw [(r 16 (by omega) (by omega)).1, (r 17 (by omega) (by omega)).2, (r 18 (by omega) (by omega)).2, (r 19 (by omega) (by omega)).1, (r 20 (by omega) (by omega)).1]
  exact k3 k x hx
theorem m_ck_an {x : k_CH} (h : m_wc x) : fo_an (m_ck x) = s_all x.2.1 := by
  obtain ⟨hk, -, -, -, -, -⟩ := h
  unfold m_ck
  rcases hk with e | e | e | e | e | e | e <;> rw [e]
  · rfl
  · split
    · rfl
    · rfl
  · rfl
  · rfl
  · rfl
  · rfl
  · rw [if_neg (by simp)]
    split <;> rfl
/-- in order: the reference's test -/
theorem m_ck_ord {x : k_CH} (h : m_wc x) : (¬ m_ck x = 6 ∧ ¬ m_ck x = 8) ↔ s_ord x.2.1 = true := by
  obtain ⟨hk, -, -, -, -, -⟩ := h
  unfold m_ck
  rcases hk with e | e | e | e | e | e | e <;> rw [e]
  · simp [s_ord]
  · split <;> simp [s_ord]
  · simp [s_ord]
  · simp [s_ord]
  · simp [s_ord]
  · simp [s_ord]
  · rw [if_neg (by simp)]
    split <;> simp [s_ord]
theorem m_ck_fol {x : k_CH} (h : m_wc x) (ho : s_ord x.2.1 = true) : (x.2.1 = 0 ∨ x.2.1 = 1 ∨ x.2.1 = 2 ∨ x.2.1 = 3 ∨ x.2.1 = 4 ∨ x.2.1 = 5) ∧ (m_ck x = x.2.1 ∨ m_ck x = 7 ∧ x.2.1 = 1) ∧ m_cv x = (if x.2.1 = 1 then 0 else if x.2.1 = 5 then 0 else x.2.2.2.2.1) := by
  obtain ⟨hk, -, -, -, -, -⟩ := h
  unfold m_ck m_cv
  rcases hk with e | e | e | e | e | e | e <;> rw [e]
  · simp
  · split <;> simp
  · simp
  · simp
  · simp
  · simp
  · rw [e] at ho; cases ho
def s_ownS (MC : List k_CH) (ser lo hi : Nat) : Bool := MC.any (fun x => s_all x.2.1 && decide (x.1 ≤ ser) && decide (x.2.2.1 ≤ lo) && decide (hi ≤ x.2.2.2.1))
section MC
variable {G : k_G} {l : Launch}
theorem c_X12_changeAt (ok : k_ok G l) {b : Nat} {s : m_S} {h : k_H} (t k : Nat) : k_cti (tX12_changeAt G l) [vR (some b), vI (nI t), vI (nI k)] (m_hp b s h) (m_p b h (fun s1 v => s1 = s ∧ v = nI (4096 * t + k))) := by
  refine k_cti_of (eX12_changeAt ok.2 (bX12_changeAt_0 ⟨_, rfl, s, rfl, rfl, ?_⟩))
  rw [show (4096 : Int32) = nI 4096 from rfl, nI_mul, nI_add]
theorem c_X12_sees (ok : k_ok G l) {b : Nat} {s : m_S} {h : k_H} {KM : List k_K2} {L : List k_E4} {MC : List k_CH} {n t ra c : Nat} (hk : m_st s KM L n) (ht : t < 4) (hm : m_ch s t MC) (hra : s.2.1 12 t = nI ra) (hr9 : ra < 2 ^ 31) (hc : c < 2 ^ 62) :
    k_ctv (tX12_sees G l) [vR (some b), vI (nI t), vJ (lN c)] (m_hp b s h) (m_pv b h (fun s1 => m_seen s1 (s_see c MC (r_val c ra L, false)) ∧ m_fr [33, 34, 35] [] s s1)) := by
  have ec : (nI t).toNatClampNeg = t := nI_clamp (by omega)
  have y : vp_in (nI t) 4 := m_ii ht (by omega)
  obtain ⟨q1, q2, q3⟩ := id hm
  refine k_ctv_of (eX12_sees ok.2 (mX12_sees_0 (c_X12_placeOf ok hk.1 hc) ?_))
  rintro _ _ ⟨hr, rfl⟩
  rw [hr]
  refine mX12_sees_5 (c_X12_isNamed ok hk.1 hc) ?_
  rintro _ _ ⟨hr, rfl⟩
  rw [hr]
  -- the changes
  have key : ∀ (d k : Nat) (z : Option Int32 × Bool) (r : m_S), MC.length - k = d → k ≤ MC.length → m_seen r z → m_fr [33, 34, 35] [] s r → s_see c (MC.drop k) z = s_see c MC (r_val c ra L, false) →
      k_X (jX12_sees G l (m_hp b s h)) (m_hp b r h) 80 [(0, vR (some b)), (1, vI (nI t)), (2, vJ (lN c)), (6, vI (nI k))] [] (q_v (m_pv b h (fun s1 => m_seen s1 (s_see c MC (r_val c ra L, false)) ∧ m_fr [33, 34, 35] [] s s1))) := by
    intro d
    induction d with
    | zero =>
      intro k z r hd hk9 hz hf he
      have e15 : r.2.1 15 t = nI MC.length := by rw [(hf.2 15 (by simp)).1, q1]
      refine mX12_sees_80 y (fun _ => bX12_sees_172 ⟨rfl, r, rfl, ?_, hf⟩) (fun z => absurd (by rw [ec, e15]; exact nI_le (by omega) (by omega)) z)
      rw [← he, List.drop_eq_nil_of_le (by omega)]
      exact hz
    | succ d ih =>
      intro k z r hd hk9 hz hf he
      have hlt : k < MC.length := by omega
      obtain ⟨x, hx⟩ : ∃ x, MC[k]? = some x := ⟨_, List.getElem?_eq_getElem hlt⟩
      have e15 : r.2.1 15 t = nI MC.length := by rw [(hf.2 15 (by simp)).1, q1]
      have hmr := m_ch_fr hm hf (fun i _ _ => by simp)
      obtain ⟨wf, g16, g17, g18, g19, g20⟩ := hmr.2.2 _ _ hx
      have hdrop : MC.drop k = x :: MC.drop (k + 1) := by
        rw [List.drop_eq_getElem_cons hlt]
        congr 1
        exact (List.getElem?_eq_some_iff.mp hx).2
      rw [hdrop] at he
      have hmk : 4096 * t + k < 16384 := by omega
      have ek : (nI (4096 * t + k)).toNatClampNeg = 4096 * t + k := nI_clamp (by omega)
      have yk : vp_in (nI (4096 * t + k)) 16384 := m_ii hmk (by omega)
      have skip : s_cov x c = false → k_X (jX12_sees G l (m_hp b s h)) (m_hp b r h) 166 [(0, vR (some b)), (1, vI (nI t)), (2, vJ (lN c)), (6, vI (nI k))] [] (q_v (m_pv b h (fun s1 => m_seen s1 (s_see c MC (r_val c ra L, false)) ∧ m_fr [33, 34, 35] [] s s1))) := fun hs => by
        refine bX12_sees_166 ?_
        rw [nI_1]
        refine ih (k + 1) z r (by omega) (by omega) hz hf ?_
        rw [← he]
        unfold s_see
        rw [List.foldl_cons, if_neg (by rw [hs]; decide)]
      refine mX12_sees_80 y (fun z => absurd z (by rw [ec, e15]; exact nI_ge hlt (by omega))) (fun _ => ?_)
      refine mX12_sees_91 (c_X12_changeAt ok t k) ?_
      rintro _ _ ⟨hr, rfl⟩
      rw [hr]
      have hnotord : ¬ s_ord x.2.1 = true → s_cov x c = false := fun z => by
        unfold s_cov
        rw [Bool.eq_false_iff.mpr z]; rfl
      refine mX12_sees_98 yk (fun c1 => ?_) (fun c1 => ?_)
      · rw [ek, g16] at c1
        exact skip (hnotord (fun z => ((m_ck_ord wf).mpr z).1 c1))
      rw [ek, g16] at c1
      refine mX12_sees_112 yk (fun c2 => ?_) (fun c2 => ?_)
      · rw [ek, g16] at c2
        exact skip (hnotord (fun z => ((m_ck_ord wf).mpr z).2 c2))
      rw [ek, g16] at c2
      have hord := (m_ck_ord wf).mp ⟨c1, c2⟩
      obtain ⟨-, w2, w3, w4, w5, w6⟩ := id wf
      refine mX12_sees_124 yk (fun c3 => ?_) (fun c3 => ?_)
      · rw [ek, g17] at c3
        have c4 := (lX_lt hc (by omega)).mp c3
        refine skip ?_
        unfold s_cov
        rw [decide_eq_false (show ¬ x.2.2.1 ≤ c by omega)]
        simp
      rw [ek, g17] at c3
      have c4 : ¬ c < x.2.2.1 := fun z => c3 ((lX_lt hc (by omega)).mpr z)
      refine mX12_sees_136 yk (fun c5 => ?_) (fun c5 => ?_)
      · rw [ek, g18] at c5
        have c6 := (lX_lt (by omega) hc).mp c5
        refine skip ?_
        unfold s_cov
        rw [decide_eq_false (show ¬ c < x.2.2.2.1 by omega)]
        simp
      rw [ek, g18] at c5
      have c6 : ¬ x.2.2.2.1 - 1 < c := fun z => c5 ((lX_lt (by omega) hc).mpr z)
      have hcov : s_cov x c = true := by
        unfold s_cov
        rw [hord, decide_eq_true (show x.2.2.1 ≤ c by omega), decide_eq_true (show c < x.2.2.2.1 by omega)]
        rfl
      obtain ⟨f1, f2, f3⟩ := m_ck_fol wf hord
      refine mX12_sees_148 yk yk (by rw [ek, g16, g19]; exact c_X12_follows ok (o := z.1) (st := z.2) (k := x.2.1) (g := x.2.2.2.2.1) (sp := 0) hz f1 f2 f3) ?_
      rintro r2 ⟨hz2, hf2⟩
      refine bX12_sees_166 ?_
      rw [nI_1]
      refine ih (k + 1) (s_apO x.2.1 x.2.2.2.2.1 0 z.1, s_apS x.2.1 z.2) r2 (by omega) (by omega) hz2 (m_fr_trans hf hf2) ?_
      rw [← he]
      unfold s_see
      rw [List.foldl_cons, if_pos hcov]
  -- what it had
  have start : ∀ r : m_S, r.1 33 = kB (r_val c ra L).isSome → m_fr [33] [] s r → (∀ (v : Int32), v = (r_val c ra L).getD 0 → k_X (jX12_sees G l (m_hp b s h)) (m_hp b r h) 69 [(0, vR (some b)), (1, vI (nI t)), (2, vJ (lN c))] [vI v, vR (some b)] (q_v (m_pv b h (fun s1 => m_seen s1 (s_see c MC (r_val c ra L, false)) ∧ m_fr [33, 34, 35] [] s s1)))) := by
    intro r h33 hf v hv
    refine mX12_sees_69 (mX12_sees_72 (bX12_sees_77 ?_))
    refine key _ 0 (r_val c ra L, false) _ rfl (Nat.zero_le _) ⟨h33, hv, rfl⟩ ⟨fun q hq => ?_, fun i _ => hf.2 i (by simp)⟩ rfl
    simp only [List.mem_cons, List.not_mem_nil, or_false, not_or] at hq
    show (if q = 35 then _ else if q = 34 then _ else r.1 q) = _
    rw [if_neg hq.2.2, if_neg hq.2.1]
    exact hf.1 q (by simp [hq.1])
  have none_ : r_val c ra L = none → k_X (jX12_sees G l (m_hp b s h)) (m_hp b s h) 41 [(0, vR (some b)), (1, vI (nI t)), (2, vJ (lN c)), (4, vI (nI (r_pl c KM)))] [vR (some b)] (q_v (m_pv b h (fun s1 => m_seen s1 (s_see c MC (r_val c ra L, false)) ∧ m_fr [33, 34, 35] [] s s1))) := by
    intro e
    refine bX12_sees_41 (mX12_sees_42 (Or.inl rfl) ?_)
    refine mX12_sees_45 (fun _ => bX12_sees_68 (start (m_si s 33 0) ?_ ⟨fun q hq => ?_, fun _ _ => ⟨rfl, rfl⟩⟩ _ ?_)) (fun z => absurd rfl z)
    · rw [e]; rfl
    · show (if q = 33 then _ else s.1 q) = _
      rw [if_neg (by simpa using hq)]
    · rw [e]; rfl
  have hpl : r_pl c KM ≤ 12000 := by have := r_pl_le c KM; have := hk.1.2.1; omega
  cases e : r_at c KM with
  | none =>
    exact bX12_sees_14 (fun _ => none_ (r_val_none hk.1.2.2.2 hk.2.2.2.2.2.2.2 e)) (fun z => absurd rfl z)
  | some a =>
    refine bX12_sees_14 (fun z => absurd z (kB_n0.mpr rfl)) (fun _ => ?_)
    refine mX12_sees_22 y (by rw [ec, hra]; exact c_X12_hasAt ok hk (r_at_get e) hr9) ?_
    rintro _ _ ⟨hr, rfl⟩
    rw [hr]
    refine bX12_sees_34 (fun c1 => ?_) (fun c1 => ?_)
    · rw [kB_0] at c1
      refine none_ ?_
      cases ev : r_val c ra L with
      | none => rfl
      | some w => rw [ev] at c1; cases c1
    · rw [kB_n0] at c1
      refine bX12_sees_37 (mX12_sees_42 (Or.inr rfl) ?_)
      have hf : m_fr [33] [] s (m_si s 33 1) := ⟨fun q hq => by
        show (if q = 33 then _ else s.1 q) = _
        rw [if_neg (by simpa using hq)], fun _ _ => ⟨rfl, rfl⟩⟩
      have h33 : (m_si s 33 1).1 33 = kB (r_val c ra L).isSome := by rw [c1]; rfl
      have hk2 := m_st_fr hk hf (by simp) (fun i _ _ => by simp)
      have hra2 : (m_si s 33 1).2.1 12 t = nI ra := hra
      generalize m_si s 33 1 = r at hf h33 hk2 hra2
      refine mX12_sees_45 (fun z => absurd z (by rw [h33, c1]; decide)) (fun _ => ?_)
      refine mX12_sees_53 y (by rw [ec, hra2]; exact c_X12_valueAt ok hk2 (r_at_get e) hr9) ?_
      rintro _ _ ⟨hr, rfl⟩
      rw [hr]
      refine bX12_sees_65 (start r h33 hf _ ?_)
      cases ev : r_val c ra L with
      | none => rw [ev] at c1; cases c1
      | some w => rfl
theorem c_X12_isOwn (ok : k_ok G l) {b : Nat} {s : m_S} {h : k_H} {MC : List k_CH} {t lo hi ser : Nat} (ht : t < 4) (hm : m_ch s t MC) (hlo : lo < 2 ^ 62) (hhi : hi < 2 ^ 61) (hser : ser < 2 ^ 31) :
    k_cti (tX12_isOwn G l) [vR (some b), vI (nI t), vJ (lN lo), vJ (lN hi), vI (nI ser)] (m_hp b s h) (m_p b h (fun s1 v => s1 = s ∧ v = kB (s_ownS MC ser lo (hi + 1)))) := by
  have ec : (nI t).toNatClampNeg = t := nI_clamp (by omega)
  have y : vp_in (nI t) 4 := m_ii ht (by omega)
  obtain ⟨q1, q2, q3⟩ := id hm
  refine k_cti_of (eX12_isOwn ok.2 (bX12_isOwn_0 ?_))
  have key : ∀ (d k : Nat) (v : Bool), MC.length - k = d → k ≤ MC.length → (v || s_ownS (MC.drop k) ser lo (hi + 1)) = s_ownS MC ser lo (hi + 1) →
      k_X (jX12_isOwn G l (m_hp b s h)) (m_hp b s h) 6 [(0, vR (some b)), (1, vI (nI t)), (2, vJ (lN lo)), (4, vJ (lN hi)), (6, vI (nI ser)), (7, vI (kB v)), (8, vI (nI k))] [] (q_i (m_p b h (fun s1 v => s1 = s ∧ v = kB (s_ownS MC ser lo (hi + 1))))) := by
    intro d
    induction d with
    | zero =>
      intro k v hd hk9 he
      refine mX12_isOwn_6 y (fun _ => bX12_isOwn_126 (kB_bl _) ⟨_, rfl, s, rfl, rfl, ?_⟩) (fun z => absurd (by rw [ec, q1]; exact nI_le (by omega) (by omega)) z)
      rw [← he, List.drop_eq_nil_of_le (by omega)]
      simp [s_ownS]
    | succ d ih =>
      intro k v hd hk9 he
      have hlt : k < MC.length := by omega
      obtain ⟨x, hx⟩ : ∃ x, MC[k]? = some x := ⟨_, List.getElem?_eq_getElem hlt⟩
      obtain ⟨wf, g16, g17, g18, g19, g20⟩ := q3 _ _ hx
      have hdrop : MC.drop k = x :: MC.drop (k + 1) := by
        rw [List.drop_eq_getElem_cons hlt]
        congr 1
        exact (List.getElem?_eq_some_iff.mp hx).2
      rw [hdrop] at he
      have he2 : s_ownS (x :: MC.drop (k + 1)) ser lo (hi + 1) = ((s_all x.2.1 && decide (x.1 ≤ ser) && decide (x.2.2.1 ≤ lo) && decide (hi + 1 ≤ x.2.2.2.1)) || s_ownS (MC.drop (k + 1)) ser lo (hi + 1)) := List.any_cons
      rw [he2] at he
      have hmk : 4096 * t + k < 16384 := by omega
      have ek : (nI (4096 * t + k)).toNatClampNeg = 4096 * t + k := nI_clamp (by omega)
      have yk : vp_in (nI (4096 * t + k)) 16384 := m_ii hmk (by omega)
      obtain ⟨-, w2, w3, w4, w5, w6⟩ := id wf
      have nxt : ∀ v2 : Bool, v2 = (v || (s_all x.2.1 && decide (x.1 ≤ ser) && decide (x.2.2.1 ≤ lo) && decide (hi + 1 ≤ x.2.2.2.1))) → k_X (jX12_isOwn G l (m_hp b s h)) (m_hp b s h) 118 [(0, vR (some b)), (1, vI (nI t)), (2, vJ (lN lo)), (4, vJ (lN hi)), (6, vI (nI ser)), (8, vI (nI k))] [vI (kB v2)] (q_i (m_p b h (fun s1 v => s1 = s ∧ v = kB (s_ownS MC ser lo (hi + 1))))) := fun v2 hv2 => by
        refine bX12_isOwn_118 ?_
        rw [nI_1]
        refine ih (k + 1) v2 (by omega) (by omega) ?_
        rw [← he, hv2, Bool.or_assoc]
      refine mX12_isOwn_6 y (fun z => absurd z (by rw [ec, q1]; exact nI_ge hlt (by omega))) (fun _ => ?_)
      refine mX12_isOwn_17 (c_X12_changeAt ok t k) ?_
      rintro _ _ ⟨hr, rfl⟩
      rw [hr]
      have st64 : ∀ u : Bool, u = s_all x.2.1 → k_X (jX12_isOwn G l (m_hp b s h)) (m_hp b s h) 64 [(0, vR (some b)), (1, vI (nI t)), (2, vJ (lN lo)), (4, vJ (lN hi)), (6, vI (nI ser)), (7, vI (kB v)), (8, vI (nI k)), (9, vI (nI (4096 * t + k)))] [vI (kB u)] (q_i (m_p b h (fun s1 v => s1 = s ∧ v = kB (s_ownS MC ser lo (hi + 1))))) := fun u hu => by
        refine bX12_isOwn_64 (fun c1 => ?_) (fun c1 => ?_)
        · rw [kB_n0] at c1
          exact bX12_isOwn_113 (nxt true (by rw [c1]; rfl))
        rw [kB_0] at c1
        refine bX12_isOwn_71 (fun c2 => ?_) (fun c2 => ?_)
        · rw [kB_0] at c2
          exact bX12_isOwn_117 (nxt false (by rw [c1, ← hu, c2]; rfl))
        rw [kB_n0] at c2
        refine mX12_isOwn_76 yk (fun c3 => ?_) (fun c3 => ?_)
        · rw [ek, g20] at c3
          have c4 := (nI_ltI (by omega) (by omega)).mp c3
          exact bX12_isOwn_117 (nxt false (by rw [c1, decide_eq_false (show ¬ x.1 ≤ ser by omega)]; simp))
        rw [ek, g20] at c3
        have c4 : ¬ ser < x.1 := fun z => c3 ((nI_ltI (by omega) (by omega)).mpr z)
        refine mX12_isOwn_88 yk (fun c5 => ?_) (fun c5 => ?_)
        · rw [ek, g17] at c5
          have c6 := (lX_lt (by omega) (by omega)).mp c5
          exact bX12_isOwn_117 (nxt false (by rw [c1, decide_eq_false (show ¬ x.2.2.1 ≤ lo by omega)]; simp))
        rw [ek, g17] at c5
        have c6 : ¬ lo < x.2.2.1 := fun z => c5 ((lX_lt (by omega) (by omega)).mpr z)
        refine mX12_isOwn_100 yk (fun c7 => ?_) (fun c7 => ?_)
        · rw [ek, g18] at c7
          have c8 := (lX_lt (by omega) (by omega)).mp c7
          exact bX12_isOwn_117 (nxt false (by rw [c1, decide_eq_false (show ¬ hi + 1 ≤ x.2.2.2.1 by omega)]; simp))
        rw [ek, g18] at c7
        have c8 : ¬ x.2.2.2.1 - 1 < hi := fun z => c7 ((lX_lt (by omega) (by omega)).mpr z)
        exact bX12_isOwn_113 (nxt true (by rw [← hu, c2, decide_eq_true (show x.1 ≤ ser by omega), decide_eq_true (show x.2.2.1 ≤ lo by omega), decide_eq_true (show hi + 1 ≤ x.2.2.2.1 by omega)]; simp))
      have han := m_ck_an wf
      have tr : fo_an (m_ck x) = true → k_X (jX12_isOwn G l (m_hp b s h)) (m_hp b s h) 59 [(0, vR (some b)), (1, vI (nI t)), (2, vJ (lN lo)), (4, vJ (lN hi)), (6, vI (nI ser)), (7, vI (kB v)), (8, vI (nI k)), (9, vI (nI (4096 * t + k)))] [] (q_i (m_p b h (fun s1 v => s1 = s ∧ v = kB (s_ownS MC ser lo (hi + 1))))) := fun e => bX12_isOwn_59 (st64 true (by rw [← han, e]))
      refine mX12_isOwn_24 yk (fun c1 => ?_) (fun c1 => ?_)
      · rw [ek, g16] at c1
        exact tr (by rw [c1]; rfl)
      rw [ek, g16] at c1 ⊢
      refine bX12_isOwn_40 (fun c2 => tr (by rw [c2]; rfl)) (fun c2 => bX12_isOwn_46 (fun c3 => tr (by rw [c3]; rfl)) (fun c3 => bX12_isOwn_53 (fun c4 => ?_) (fun c4 => tr (by rw [c4]; rfl))))
      exact bX12_isOwn_63 (st64 false (by rw [← han]; simp [fo_an, c1, c2, c3, c4]))
  exact key _ 0 false rfl (Nat.zero_le _) rfl
end MC
