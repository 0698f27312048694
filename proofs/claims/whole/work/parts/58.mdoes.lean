/-! WHAT COMMITS DO: keys, log, cleared ranges edited -/
abbrev e_S : Type := List k_K2 × List k_E4 × List (Nat × Nat × Nat)
def e_put (n c : Nat) (o : Option Int32) (E : e_S) : e_S := (m_ins c E.1, (E.2.1.length, c, n, o) :: E.2.1, E.2.2)
def e_clr (n lo hi : Nat) (E : e_S) : e_S := (E.1, r_pus n ((r_flt lo hi (fun c => (r_val c n E.2.1).isSome) E.1).map (fun x => (x.1, none))) E.2.1, E.2.2 ++ [(lo, hi, n)])
def e_do (n : Nat) (E : e_S) (x : k_CH) : e_S := if s_ord x.2.1 = true then (if 1 < x.2.2.2.1 - x.2.2.1 then e_clr n x.2.2.1 x.2.2.2.1 E else e_put n x.2.2.1 (s_apO x.2.1 x.2.2.2.2.1 (nI n) (r_val x.2.2.1 n E.2.1)) E) else E
def e_sc (x : k_CH) (n : Nat) : Nat := s_with x.2.2.1 (s_stp (m_ck x) x.2.2.1) (nI n)
def e_st (n : Nat) (E : e_S) (x : k_CH) : e_S := if x.2.1 = 6 then e_put n (e_sc x n) (some x.2.2.2.2.1) E else E
def e_all (n : Nat) (MC : List k_CH) (E : e_S) : e_S := MC.foldl (e_st n) (MC.foldl (e_do n) E)
def e_lim (E : e_S) : Prop := E.1.length ≤ 12000 ∧ E.2.1.length ≤ 420000 ∧ E.2.2.length ≤ 8192
def e_le (E F : e_S) : Prop := E.1.length ≤ F.1.length ∧ E.2.1.length ≤ F.2.1.length ∧ E.2.2.length ≤ F.2.2.length
theorem e_le_refl (E : e_S) : e_le E E := ⟨Nat.le_refl _, Nat.le_refl _, Nat.le_refl _⟩
theorem e_le_trans {E F K : e_S} (a : e_le E F) (b : e_le F K) : e_le E K := ⟨Nat.le_trans a.1 b.1, Nat.le_trans a.2.1 b.2.1, Nat.le_trans a.2.2 b.2.2⟩
theorem e_lim_le {E F : e_S} (l : e_lim F) (a : e_le E F) : e_lim E := ⟨Nat.le_trans a.1 l.1, Nat.le_trans a.2.1 l.2.1, Nat.le_trans a.2.2 l.2.2⟩
theorem m_ins_le (c : Nat) (K : List k_K2) : K.length ≤ (m_ins c K).length := by
  unfold m_ins
  split
  · exact Nat.le_refl _
  · rw [List.length_insertIdx]; split <;> omega
theorem e_le_put (n c : Nat) (o : Option Int32) (E : e_S) : e_le E (e_put n c o E) := ⟨m_ins_le _ _, Nat.le_succ _, Nat.le_refl _⟩
theorem e_le_clr (n lo hi : Nat) (E : e_S) : e_le E (e_clr n lo hi E) := ⟨Nat.le_refl _, by show _ ≤ (r_pus _ _ _).length; rw [r_pus_len]; omega, by show _ ≤ (E.2.2 ++ [_]).length; simp⟩
theorem e_le_do (n : Nat) (E : e_S) (x : k_CH) : e_le E (e_do n E x) := by
  unfold e_do
  split
  · split
    · exact e_le_clr _ _ _ _
    · exact e_le_put _ _ _ _
  · exact e_le_refl _
theorem e_le_st (n : Nat) (E : e_S) (x : k_CH) : e_le E (e_st n E x) := by
  unfold e_st
  split
  · exact e_le_put _ _ _ _
  · exact e_le_refl _
theorem e_le_dos (n : Nat) : ∀ (MC : List k_CH) (E : e_S), e_le E (MC.foldl (e_do n) E) := by
  intro MC
  induction MC with
  | nil => exact fun E => e_le_refl E
  | cons x t ih => exact fun E => e_le_trans (e_le_do n E x) (ih _)
theorem e_le_sts (n : Nat) : ∀ (MC : List k_CH) (E : e_S), e_le E (MC.foldl (e_st n) E) := by
  intro MC
  induction MC with
  | nil => exact fun E => e_le_refl E
  | cons x t ih => exact fun E => e_le_trans (e_le_st n E x) (ih _)
def m_E (s : m_S) (E : e_S) (n : Nat) : Prop := m_st s E.1 E.2.1 n ∧ m_rg s E.2.2
theorem m_E_fr {A B : List Nat} {s s1 : m_S} {E : e_S} {n : Nat} (h : m_E s E n) (f : m_fr A B s s1) (hA : 0 ∉ A ∧ 2 ∉ A ∧ 5 ∉ A ∧ 10 ∉ A) (hB : ∀ i, 0 < i → i < 10 → i ∉ B) : m_E s1 E n :=
  ⟨m_st_fr h.1 f ⟨hA.1, hA.2.1, hA.2.2.1⟩ (fun i a b => hB i a (by omega)), m_rg_fr h.2 f hA.2.2.2 ⟨hB 7 (by omega) (by omega), hB 8 (by omega) (by omega), hB 9 (by omega) (by omega)⟩⟩
theorem e_n_na {n : Nat} (h : n < 9000) : s_na (nI n) := Or.inr (s_nm_of (by rw [nI_toInt (by omega)]; omega) (by rw [nI_toInt (by omega)]; omega))
section MD
variable {G : k_G} {l : Launch}
theorem c_e_put (ok : k_ok G l) {b : Nat} {s : m_S} {h : k_H} {E : e_S} {c n : Nat} {o : Option Int32} (hE : m_E s E n) (hc : c < 1331000000000) (hlim : e_lim (e_put n c o E)) :
    k_ctv (tX12_puts G l) [vR (some b), vJ (lN c), vI (kB o.isSome), vI (o.getD 0)] (m_hp b s h) (m_pv b h (fun s1 => m_E s1 (e_put n c o E) n ∧ m_fr [2, 5] [1, 2, 3, 4, 5, 6] s s1)) := by
  obtain ⟨h', t, s1, e, p1, p2⟩ := c_X12_puts ok (o := o) (h := h) (b := b) hE.1 hc hlim.1 hlim.2.1
  exact ⟨h', t, s1, e, ⟨p1, m_rg_fr hE.2 p2 (by simp) (by simp)⟩, p2⟩
theorem c_e_clr (ok : k_ok G l) {b : Nat} {s : m_S} {h : k_H} {E : e_S} {lo hi n : Nat} (hE : m_E s E n) (hlo : lo < 2 ^ 62) (hhi : hi < 2 ^ 61) (hlim : e_lim (e_clr n lo (hi + 1) E)) :
    k_ctv (tX12_clears G l) [vR (some b), vJ (lN lo), vJ (lN hi)] (m_hp b s h) (m_pv b h (fun s1 => m_E s1 (e_clr n lo (hi + 1) E) n ∧ m_fr [2, 5, 10] [1, 2, 3, 4, 5, 6, 7, 8, 9] s s1)) := by
  obtain ⟨l1, l2, l3⟩ := hlim
  have l2' : (r_pus n ((r_flt lo (hi + 1) (fun c => (r_val c n E.2.1).isSome) E.1).map (fun x => (x.1, none))) E.2.1).length ≤ 420000 := l2
  have l3' : (E.2.2 ++ [(lo, hi + 1, n)]).length ≤ 8192 := l3
  rw [r_pus_len, List.length_map] at l2'
  rw [List.length_append] at l3'
  obtain ⟨h', t, s1, e, p1, p2, p3⟩ := c_X12_clears ok (h := h) (b := b) hE.1 hE.2 hlo hhi (by simp at l3'; omega) l2'
  exact ⟨h', t, s1, e, ⟨p1, p2⟩, p3⟩
theorem c_X12_does (ok : k_ok G l) {b : Nat} {s : m_S} {h : k_H} {E : e_S} {n : Nat} {x : k_CH} (hE : m_E s E n) (hx : m_wc x) (hlim : e_lim (e_do n E x)) :
    k_ctv (tX12_does G l) [vR (some b), vI (m_ck x), vJ (lN x.2.2.1), vJ (lN (x.2.2.2.1 - 1)), vI (m_cv x)] (m_hp b s h) (m_pv b h (fun s1 => m_E s1 (e_do n E x) n ∧ m_fr [2, 5, 10, 33, 34, 35] [1, 2, 3, 4, 5, 6, 7, 8, 9] s s1)) := by
  obtain ⟨w1, w2, w3, w4, w5, w6⟩ := id hx
  refine k_ctv_of (eX12_does ok.2 ?_)
  by_cases hord : s_ord x.2.1 = true
  · by_cases hrg : 1 < x.2.2.2.1 - x.2.2.1
    · have e : e_do n E x = e_clr n x.2.2.1 x.2.2.2.1 E := by unfold e_do; rw [if_pos hord, if_pos hrg]
      have hk1 : x.2.1 = 1 := by rcases w4 with z | z; omega; exact z
      have hck : m_ck x = 7 := by unfold m_ck; rw [if_pos ⟨hk1, hrg⟩]
      rw [hck]
      rw [e] at hlim ⊢
      have eh : x.2.2.2.1 = (x.2.2.2.1 - 1) + 1 := by omega
      refine bX12_does_0 (fun z => absurd rfl z) (fun _ => ?_)
      refine mX12_does_6 (c_e_clr ok (hi := x.2.2.2.1 - 1) hE (by omega) (by omega) (by rw [← eh]; exact hlim)) ?_
      rintro r ⟨p1, p2⟩
      rw [← eh] at p1
      exact bX12_does_13 (bX12_does_88 ⟨rfl, r, rfl, p1, m_fr_mono p2 (by simp) (by simp)⟩)
    · have e : e_do n E x = e_put n x.2.2.1 (s_apO x.2.1 x.2.2.2.2.1 (nI n) (r_val x.2.2.1 n E.2.1)) E := by unfold e_do; rw [if_pos hord, if_neg hrg]
      rw [e] at hlim ⊢
      obtain ⟨f1, f2, f3⟩ := m_ck_fol hx hord
      have hck : m_ck x = x.2.1 := by
        unfold m_ck
        rw [if_neg (fun z => hrg z.2), if_neg (fun z => by rw [z.1] at hord; cases hord)]
      have h7 : ¬ m_ck x = 7 := by rw [hck]; rcases f1 with z | z | z | z | z | z <;> rw [z] <;> decide
      have h6 : ¬ 6 ≤ m_ck x := by rw [hck]; rcases f1 with z | z | z | z | z | z <;> rw [z] <;> decide
      refine bX12_does_0 (fun _ => ?_) (fun z => absurd z h7)
      refine bX12_does_16 (fun z => absurd z h6) (fun _ => ?_)
      refine mX12_does_22 (c_X12_hasNow ok hE.1 (by omega)) ?_
      rintro _ _ ⟨hr, rfl⟩
      rw [hr]
      refine mX12_does_28 (kB_bl _) ?_
      -- behind what it had
      have nxt : ∀ (r : m_S) (v : Int32), r.1 33 = kB (r_val x.2.2.1 n E.2.1).isSome → v = (r_val x.2.2.1 n E.2.1).getD 0 → m_fr [33] [] s r →
          k_X (jX12_does G l (m_hp b s h)) (m_hp b r h) 48 [(0, vR (some b)), (1, vI (m_ck x)), (2, vJ (lN x.2.2.1)), (6, vI (m_cv x))] [vI v, vR (some b)] (q_v (m_pv b h (fun s1 => m_E s1 (e_put n x.2.2.1 (s_apO x.2.1 x.2.2.2.2.1 (nI n) (r_val x.2.2.1 n E.2.1)) E) n ∧ m_fr [2, 5, 10, 33, 34, 35] [1, 2, 3, 4, 5, 6, 7, 8, 9] s s1))) := by
        intro r v h33 hv hf
        refine mX12_does_48 (mX12_does_51 ?_)
        have hz : m_seen (m_si (m_si r 34 v) 35 0) (r_val x.2.2.1 n E.2.1, false) := ⟨h33, hv, rfl⟩
        have hf2 : m_fr [33, 34, 35] [] s (m_si (m_si r 34 v) 35 0) := by
          refine ⟨fun k hk => ?_, fun i hi => hf.2 i hi⟩
          simp only [List.mem_cons, List.not_mem_nil, or_false, not_or] at hk
          show (if k = 35 then _ else if k = 34 then _ else r.1 k) = _
          rw [if_neg hk.2.2, if_neg hk.2.1]
          exact hf.1 k (by simp [hk.1])
        generalize m_si (m_si r 34 v) 35 0 = r2 at hz hf2
        have e0 : r2.1 0 = nI n := by rw [hf2.1 0 (by simp)]; exact hE.1.2.2.2.2.1
        have fin : ∀ g9 : Int32, g9 = (if x.2.1 = 1 then 0 else if x.2.1 = 5 then nI n else x.2.2.2.2.1) →
            k_X (jX12_does G l (m_hp b s h)) (m_hp b r2 h) 72 [(0, vR (some b)), (2, vJ (lN x.2.2.1))] [vI g9, vI (m_ck x), vR (some b)] (q_v (m_pv b h (fun s1 => m_E s1 (e_put n x.2.2.1 (s_apO x.2.1 x.2.2.2.2.1 (nI n) (r_val x.2.2.1 n E.2.1)) E) n ∧ m_fr [2, 5, 10, 33, 34, 35] [1, 2, 3, 4, 5, 6, 7, 8, 9] s s1))) := by
          intro g9 hg9
          refine mX12_does_72 (c_X12_follows ok hz f1 f2 hg9) ?_
          rintro r3 ⟨⟨z1, z2, -⟩, hf3⟩
          have hE3 : m_E r3 E n := m_E_fr (m_E_fr hE hf2 (by simp) (fun i _ _ => by simp)) hf3 (by simp) (fun i _ _ => by simp)
          refine mX12_does_75 (by rw [z1, z2]; exact c_e_put ok hE3 w5 hlim) ?_
          rintro r4 ⟨p1, p2⟩
          exact bX12_does_88 ⟨rfl, r4, rfl, p1, m_fr_trans (m_fr_mono hf2 (by simp) (by simp)) (m_fr_trans (m_fr_mono hf3 (by simp) (by simp)) (m_fr_mono p2 (by simp) (by simp)))⟩
        refine bX12_does_56 (fun c5 => bX12_does_70 (fin _ ?_)) (fun c5 => mX12_does_63 (fin _ ?_))
        · rw [hck] at c5
          rw [f3, if_neg c5, if_neg c5]
        · rw [hck] at c5
          rw [e0, if_neg (by rw [c5]; decide), if_pos c5]
      have hf : m_fr [33] [] s (m_si s 33 (kB (r_val x.2.2.1 n E.2.1).isSome)) := ⟨fun k hk => by
        show (if k = 33 then _ else s.1 k) = _
        rw [if_neg (by simpa using hk)], fun _ _ => ⟨rfl, rfl⟩⟩
      have h33 : (m_si s 33 (kB (r_val x.2.2.1 n E.2.1).isSome)).1 33 = kB (r_val x.2.2.1 n E.2.1).isSome := rfl
      generalize m_si s 33 (kB (r_val x.2.2.1 n E.2.1).isSome) = r at hf h33
      refine mX12_does_31 (fun c1 => ?_) (fun c1 => ?_)
      · rw [h33, kB_0] at c1
        refine bX12_does_47 (nxt r 0 h33 ?_ hf)
        cases ev : r_val x.2.2.1 n E.2.1 with
        | none => rfl
        | some w => rw [ev] at c1; cases c1
      · rw [h33, kB_n0] at c1
        refine mX12_does_39 (c_X12_valueNow ok (m_E_fr hE hf (by simp) (fun i _ _ => by simp)).1 (by omega)) ?_
        rintro _ _ ⟨hr, rfl⟩
        rw [hr]
        refine bX12_does_44 (nxt r _ h33 ?_ hf)
        cases ev : r_val x.2.2.1 n E.2.1 with
        | none => rw [ev] at c1; cases c1
        | some w => rfl
  · have e : e_do n E x = E := by unfold e_do; rw [if_neg hord]
    rw [e]
    have hk6 : x.2.1 = 6 := by
      rcases w1 with z | z | z | z | z | z | z
      · rw [z] at hord; exact absurd rfl hord
      · rw [z] at hord; exact absurd rfl hord
      · rw [z] at hord; exact absurd rfl hord
      · rw [z] at hord; exact absurd rfl hord
      · rw [z] at hord; exact absurd rfl hord
      · rw [z] at hord; exact absurd rfl hord
      · exact z
    have hck : m_ck x = 6 ∨ m_ck x = 8 := by
      unfold m_ck
      rw [if_neg (fun z => by rw [hk6] at z; exact absurd z.1 (by decide))]
      split
      · exact Or.inr rfl
      · exact Or.inl hk6
    have h7 : ¬ m_ck x = 7 := by rcases hck with z | z <;> rw [z] <;> decide
    have h6 : 6 ≤ m_ck x := by rcases hck with z | z <;> rw [z] <;> decide
    exact bX12_does_0 (fun _ => bX12_does_16 (fun _ => bX12_does_88 ⟨rfl, s, rfl, hE, m_fr_refl _ _ _⟩) (fun z => absurd h6 z)) (fun z => absurd z h7)
end MD
