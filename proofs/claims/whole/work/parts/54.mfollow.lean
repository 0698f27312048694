/-! WHAT A CHANGE MAKES OF WHAT IS SEEN, in the reference -/
def fo_an (x : Int32) : Bool := decide (x = 0) || decide (x = 1) || decide (x = 7) || decide (x = 5)
def fo_had (x1 x2 : Int32) (o : Option Int32) : Int32 := match o with
  | some w => w
  | none => if x1 = 2 then 0 else x2
def fo_val (x1 x2 had : Int32) (an : Bool) : Int32 := if an = true then x2 else if x1 = 2 then had + x2 else if x1 = 3 then (if had ≤ x2 then x2 else had) else (if x2 ≤ had then x2 else had)
section MF
variable {G : k_G} {l : Launch}
theorem fo_A {h h0 : k_H} {b : Nat} {x1 x2 : Int32} {Q : k_H → k_R → Prop} (K : k_X (jX12_follows G l h0) h 25 [(0, vR (some b)), (1, vI x1), (2, vI x2)] [vI (kB (fo_an x1))] Q) : k_X (jX12_follows G l h0) h 0 [(0, vR (some b)), (1, vI x1), (2, vI x2)] [] Q := by
  have t : fo_an x1 = true → k_X (jX12_follows G l h0) h 20 [(0, vR (some b)), (1, vI x1), (2, vI x2)] [] Q := fun e => by
    rw [e] at K
    exact bX12_follows_20 K
  refine bX12_follows_0 (fun c => t (by simp [fo_an, c])) (fun c0 => bX12_follows_4 (fun c => t (by simp [fo_an, c])) (fun c1 => bX12_follows_9 (fun c => t (by simp [fo_an, c])) (fun c2 => bX12_follows_15 (fun c3 => ?_) (fun c => t (by simp [fo_an, c])))))
  have e : fo_an x1 = false := by simp [fo_an, c0, c1, c2, c3]
  rw [e] at K
  exact bX12_follows_24 K
theorem fo_B {s : m_S} {h h0 : k_H} {b : Nat} {x1 x2 x3 : Int32} {o : Option Int32} {Q : k_H → k_R → Prop} (h33 : s.1 33 = kB o.isSome) (h34 : s.1 34 = o.getD 0) (K : k_X (jX12_follows G l h0) (m_hp b s h) 50 [(0, vR (some b)), (1, vI x1), (2, vI x2), (3, vI x3)] [vI (fo_had x1 x2 o)] Q) : k_X (jX12_follows G l h0) (m_hp b s h) 25 [(0, vR (some b)), (1, vI x1), (2, vI x2)] [vI x3] Q := by
  cases o with
  | none =>
    refine mX12_follows_25 (fun _ => ?_) (fun z => absurd h33 z)
    refine bX12_follows_40 (fun c => bX12_follows_49 ?_) (fun c => bX12_follows_45 ?_)
    · have : fo_had x1 x2 none = x2 := if_neg c
      rw [this] at K
      exact K
    · have : fo_had x1 x2 none = 0 := if_pos c
      rw [this] at K
      exact K
  | some w =>
    refine mX12_follows_25 (fun z => absurd z (by rw [h33]; exact kB_n0.mpr rfl)) (fun _ => mX12_follows_33 ?_)
    rw [h34]
    exact K
theorem fo_C {s : m_S} {h h0 : k_H} {b : Nat} {x1 x2 x4 : Int32} {an st : Bool} {Q : k_H → k_R → Prop} (h35 : s.1 35 = kB st) (K : k_X (jX12_follows G l h0) (m_hp b (m_si s 35 (kB (decide (x1 = 5) || st && !an))) h) 77 [(0, vR (some b)), (1, vI x1), (2, vI x2), (3, vI (kB an)), (4, vI x4)] [] Q) : k_X (jX12_follows G l h0) (m_hp b s h) 50 [(0, vR (some b)), (1, vI x1), (2, vI x2), (3, vI (kB an))] [vI x4] Q := by
  have t : ∀ v : Bool, (decide (x1 = 5) || st && !an) = v → k_X (jX12_follows G l h0) (m_hp b s h) 74 [(0, vR (some b)), (1, vI x1), (2, vI x2), (3, vI (kB an)), (4, vI x4)] [vI (kB v), vR (some b)] Q := fun v e => by
    rw [e] at K
    exact mX12_follows_74 (kB_bl _) K
  refine bX12_follows_50 (fun c => bX12_follows_69 (t true (by simp [c]))) (fun c => ?_)
  refine mX12_follows_58 (fun c1 => bX12_follows_73 (t false ?_)) (fun c1 => bX12_follows_65 (fun c2 => bX12_follows_73 (t false ?_)) (fun c2 => bX12_follows_69 (t true ?_)))
  · rw [h35, kB_0] at c1
    simp [c, c1]
  · rw [kB_n0] at c2
    simp [c, c2]
  · rw [h35, kB_n0] at c1
    rw [kB_0] at c2
    simp [c1, c2]
theorem fo_D {s : m_S} {h h0 : k_H} {b : Nat} {x1 x2 x3 x4 : Int32} {Q : k_H → k_R → Prop} (K : k_X (jX12_follows G l h0) (m_hp b (m_si s 33 (kB (!(decide (x1 = 1)) && !(decide (x1 = 7))))) h) 97 [(0, vR (some b)), (1, vI x1), (2, vI x2), (3, vI x3), (4, vI x4)] [] Q) : k_X (jX12_follows G l h0) (m_hp b s h) 77 [(0, vR (some b)), (1, vI x1), (2, vI x2), (3, vI x3), (4, vI x4)] [] Q := by
  have t : ∀ v : Bool, (!(decide (x1 = 1)) && !(decide (x1 = 7))) = v → k_X (jX12_follows G l h0) (m_hp b s h) 94 [(0, vR (some b)), (1, vI x1), (2, vI x2), (3, vI x3), (4, vI x4)] [vI (kB v), vR (some b)] Q := fun v e => by
    rw [e] at K
    exact mX12_follows_94 (kB_bl _) K
  exact bX12_follows_77 (fun c => bX12_follows_93 (t false (by simp [c]))) (fun c => bX12_follows_83 (fun c1 => bX12_follows_93 (t false (by simp [c1]))) (fun c1 => bX12_follows_89 (t true (by simp [c, c1]))))
theorem fo_E {s : m_S} {h h0 : k_H} {b : Nat} {x1 x2 x4 : Int32} {an : Bool} {Q : k_H → k_R → Prop} (K : k_X (jX12_follows G l h0) (m_hp b s h) 150 [] [vI (fo_val x1 x2 x4 an), vR (some b)] Q) : k_X (jX12_follows G l h0) (m_hp b s h) 97 [(0, vR (some b)), (1, vI x1), (2, vI x2), (3, vI (kB an)), (4, vI x4)] [] Q := by
  have t : ∀ v : Int32, fo_val x1 x2 x4 an = v → k_X (jX12_follows G l h0) (m_hp b s h) 150 [] [vI v, vR (some b)] Q := fun v e => by
    rw [e] at K
    exact K
  cases an with
  | true => exact bX12_follows_97 (fun z => absurd z (by decide)) (fun _ => bX12_follows_102 (t _ rfl))
  | false =>
    have e : fo_val x1 x2 x4 false = if x1 = 2 then x4 + x2 else if x1 = 3 then (if x4 ≤ x2 then x2 else x4) else (if x2 ≤ x4 then x2 else x4) := rfl
    rw [e] at t
    refine bX12_follows_97 (fun _ => ?_) (fun z => absurd rfl z)
    refine bX12_follows_106 (fun c => bX12_follows_118 (fun c1 => bX12_follows_138 (fun c2 => bX12_follows_149 (t _ ?_)) (fun c2 => bX12_follows_144 (t _ ?_))) (fun c1 => bX12_follows_123 (fun c2 => bX12_follows_134 (t _ ?_)) (fun c2 => bX12_follows_129 (t _ ?_)))) (fun c => bX12_follows_111 (t _ ?_))
    · rw [if_neg c, if_neg c1, if_pos c2]
    · rw [if_neg c, if_neg c1, if_neg c2]
    · rw [if_neg c, if_pos c1, if_pos c2]
    · rw [if_neg c, if_pos c1, if_neg c2]
    · rw [if_pos c]
def m_seen (s : m_S) (z : Option Int32 × Bool) : Prop := s.1 33 = kB z.1.isSome ∧ s.1 34 = z.1.getD 0 ∧ s.1 35 = kB z.2
theorem c_X12_follows (ok : k_ok G l) {b : Nat} {s : m_S} {h : k_H} {o : Option Int32} {st : Bool} {k x1 x2 g sp : Int32} (hs : m_seen s (o, st)) (hk : k = 0 ∨ k = 1 ∨ k = 2 ∨ k = 3 ∨ k = 4 ∨ k = 5) (h1 : x1 = k ∨ x1 = 7 ∧ k = 1) (h2 : x2 = if k = 1 then 0 else if k = 5 then sp else g) :
    k_ctv (tX12_follows G l) [vR (some b), vI x1, vI x2] (m_hp b s h) (m_pv b h (fun s1 => m_seen s1 (s_apO k g sp o, s_apS k st) ∧ m_fr [33, 34, 35] [] s s1)) := by
  obtain ⟨h33, h34, h35⟩ := hs
  refine k_ctv_of (eX12_follows ok.2 (fo_A (fo_B h33 h34 (fo_C h35 (fo_D (fo_E (mX12_follows_150 (bX12_follows_153 ⟨rfl, _, rfl, ?_, ?_⟩))))))))
  · have e1 : (!(decide (x1 = 1)) && !(decide (x1 = 7))) = (s_apO k g sp o).isSome := by
      rcases h1 with rfl | ⟨rfl, rfl⟩
      · rcases hk with rfl | rfl | rfl | rfl | rfl | rfl <;> rfl
      · rfl
    have e3 : (decide (x1 = 5) || st && !fo_an x1) = s_apS k st := by
      rcases h1 with rfl | ⟨rfl, rfl⟩
      · rcases hk with rfl | rfl | rfl | rfl | rfl | rfl <;> cases st <;> rfl
      · cases st <;> rfl
    have e2 : fo_val x1 x2 (fo_had x1 x2 o) (fo_an x1) = (s_apO k g sp o).getD 0 := by
      rw [h2]
      rcases h1 with rfl | ⟨rfl, rfl⟩
      · rcases hk with rfl | rfl | rfl | rfl | rfl | rfl
        · rfl
        · rfl
        · cases o with
          | none => exact Int32.zero_add _
          | some w => rfl
        · cases o with
          | none => show (if g ≤ g then g else g) = g; split <;> rfl
          | some w =>
            show (if w ≤ g then g else w) = (if w < g then g else w)
            by_cases c : w ≤ g
            · rw [if_pos c]
              by_cases c2 : w < g
              · rw [if_pos c2]
              · rw [if_neg c2]
                exact Int32.le_antisymm (Int32.not_lt.mp c2) c
            · rw [if_neg c, if_neg (fun z => c (Int32.le_of_lt z))]
        · cases o with
          | none => show (if g ≤ g then g else g) = g; split <;> rfl
          | some w =>
            show (if g ≤ w then g else w) = (if g < w then g else w)
            by_cases c : g ≤ w
            · rw [if_pos c]
              by_cases c2 : g < w
              · rw [if_pos c2]
              · rw [if_neg c2]
                exact Int32.le_antisymm c (Int32.not_lt.mp c2)
            · rw [if_neg c, if_neg (fun z => c (Int32.le_of_lt z))]
        · rfl
      · rfl
    refine ⟨?_, ?_, ?_⟩
    · show kB _ = _
      rw [e1]
    · show fo_val _ _ _ _ = _
      rw [e2]
    · show kB _ = _
      rw [e3]
  · refine ⟨fun k hk => ?_, fun i _ => ⟨rfl, rfl⟩⟩
    simp only [List.mem_cons, List.not_mem_nil, or_false, not_or] at hk
    show (if k = 34 then _ else if k = 33 then _ else if k = 35 then _ else s.1 k) = _
    rw [if_neg hk.2.1, if_neg hk.1, if_neg hk.2.2]
end MF
