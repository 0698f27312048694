/-! PARTS: (address, low, server, held) -/
abbrev k_PT : Type := Nat × Nat × Int32 × Nat
abbrev o_prt (x : k_PT) : k_C := k_o 8 [vJ (lN x.2.1), vI x.2.2.1, vI (nI x.2.2.2)]
def r_ps (h : k_H) (aP cap : Nat) (PS : List k_PT) : Prop := h.1 aP = some (k_l (PS.map (fun x => x.1)) cap) ∧ (∀ x ∈ PS, h.1 x.1 = some (o_prt x) ∧ x.2.1 < 2 ^ 62 ∧ x.2.2.2 < 2 ^ 30) ∧ PS.length < 2 ^ 18
def s_cnt (sv : Int32) (PS : List k_PT) : Nat := PS.countP (fun x => decide (x.2.2.1 = sv))
section PT
variable {G : k_G} {l : Launch}
theorem c_X6_countOf (ok : k_ok G l) {h : k_H} {p aP cap : Nat} {sv : Int32} {PS : List k_PT} (hp : h.1 p = some (k_o 9 [vR (some aP)])) (hps : r_ps h aP cap PS) : k_cti (tX6_countOf G l) [vR (some p), vI sv] h (fun h' v => h' = h ∧ v = nI (s_cnt sv PS)) := by
  obtain ⟨k1, k2, k3⟩ := hps
  have isl : k_is h aP 2 := Or.inr ⟨rfl, _, _, k1⟩
  refine k_cti_of (eX6_countOf ok.2 (bX6_countOf_0 ?_))
  have key : ∀ (d i m : Nat), PS.length - i = d → i ≤ PS.length → s_cnt sv PS = m + s_cnt sv (PS.drop i) →
      k_X (jX6_countOf G l h) h 4 [(0, vR (some p)), (1, vI sv), (2, vI (nI m)), (3, vI (nI i))] [] (q_i (fun h' v => h' = h ∧ v = nI (s_cnt sv PS))) := by
    intro d
    induction d with
    | zero =>
      intro i m hd hi hm
      refine bX6_countOf_4 hp rfl isl (c_size ok k1) ?_
      rintro h1 v ⟨hh, rfl⟩
      rw [hh, List.length_map]
      refine bX6_countOf_12 (fun _ => bX6_countOf_42 ⟨_, rfl, rfl, ?_⟩) (fun c1 => absurd (nI_le (by omega) (by omega)) c1)
      rw [hm, List.drop_eq_nil_of_le (by omega)]
      rfl
    | succ d ih =>
      intro i m hd hi hm
      have hlt : i < PS.length := by omega
      obtain ⟨x, hx⟩ : ∃ x, PS[i]? = some x := ⟨_, List.getElem?_eq_getElem hlt⟩
      have hx2 : (PS.map (fun x => x.1))[i]? = some x.1 := by rw [List.getElem?_map, hx]; rfl
      have hmem := k2 x (List.mem_of_getElem? hx)
      have hdrop : PS.drop i = x :: PS.drop (i + 1) := by
        rw [List.drop_eq_getElem_cons hlt]
        congr 1
        exact (List.getElem?_eq_some_iff.mp hx).2
      rw [hdrop] at hm
      refine bX6_countOf_4 hp rfl isl (c_size ok k1) ?_
      rintro h1 v ⟨hh, rfl⟩
      rw [hh, List.length_map]
      refine bX6_countOf_12 (fun c1 => absurd c1 (nI_ge hlt (by omega))) (fun _ => ?_)
      refine bX6_countOf_15 hp rfl isl (c_get ok k1 hx2) ?_
      rintro h1 v ⟨hh, rfl⟩
      rw [hh]
      refine bX6_countOf_23 hmem.1 rfl (fun c1 => ?_) (fun c1 => ?_)
      · refine bX6_countOf_36 ?_
        rw [nI_1]
        refine ih (i + 1) m (by omega) (by omega) ?_
        rw [hm]
        unfold s_cnt
        rw [List.countP_cons_of_neg (by simpa using c1)]
      · refine bX6_countOf_33 (bX6_countOf_36 ?_)
        rw [nI_1, nI_1]
        refine ih (i + 1) (m + 1) (by omega) (by omega) ?_
        rw [hm]
        unfold s_cnt
        rw [List.countP_cons_of_pos (by simpa using c1)]
        omega
  exact key _ 0 0 rfl (Nat.zero_le _) (by simp)
end PT
