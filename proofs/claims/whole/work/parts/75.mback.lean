/-! THE REFERENCE BRINGS BACK -/
def bb_dif (o p : Option Int32) : Bool := !(decide (o.isSome = p.isSome)) || !(decide (o_told o = o_told p))
def bb_oth (L : List k_E4) (n v c : Nat) : Bool := bb_dif (r_val c v L) (r_val c n L)
def bb_list (M : s_M) (v : Nat) : List k_K2 := (g_E M).1.filter (fun y => bb_oth (g_E M).2.1 (g_n M) v y.1)
def bb_E (M : s_M) (v : Nat) : e_S := (bb_list M v).foldl (fun E y => e_put (g_n M + 1) y.1 (r_val y.1 v (g_E M).2.1) E) (g_E M)
def F_bringBack (M : s_M) (x : Int32) : s_M × Nat × Int32 := if s_inB x 0 (nI (g_MK M).length - 1) = false then (M, 1, 0) else
  (if 0 < (bb_list M ((g_MK M).getD (t_of x) 0)).length then g_cm M (bb_E M ((g_MK M).getD (t_of x) 0)) else M, 0, nI (bb_list M ((g_MK M).getD (t_of x) 0)).length)
theorem bb_E_le (n : Nat) (f : Nat → Option Int32) : ∀ (X : List k_K2) (E : e_S), e_le E (X.foldl (fun E y => e_put n y.1 (f y.1) E) E) := by
  intro X
  induction X with
  | nil => exact fun E => e_le_refl E
  | cons x t ih => exact fun E => e_le_trans (e_le_put _ _ _ _) (ih _)
theorem r_val_adv {L : List k_E4} {n m c : Nat} (h : ∀ x ∈ L, x.2.2.1 ≤ n) (hnm : n ≤ m) : r_val c m L = r_val c n L := by
  unfold r_val r_get
  congr 1
  induction L with
  | nil => rfl
  | cons x t ih =>
    have h1 := h x (List.mem_cons_self ..)
    rw [List.find?_cons, List.find?_cons, decide_eq_true (show x.2.2.1 ≤ m by omega), decide_eq_true h1, ih (fun y hy => h y (List.mem_cons_of_mem _ hy))]
theorem kB_eq {a b : Bool} : kB a = kB b ↔ a = b := by cases a <;> cases b <;> simp [kB]
section MBB
variable {G : k_G} {l : Launch}
theorem c_X12_isOther (ok : k_ok G l) {b : Nat} {s : m_S} {h : k_H} {KM : List k_K2} {L : List k_E4} {i n v : Nat} {x : k_K2} (hk : m_st s KM L n) (hx : KM[i]? = some x) (hv : v < 2 ^ 31) : k_cti (tX12_isOther G l) [vR (some b), vI (nI i), vI (nI v)] (m_hp b s h) (m_p b h (fun s1 w => s1 = s ∧ w = kB (bb_oth L n v x.1))) := by
  have e0 : s.1 0 = nI n := hk.2.2.2.2.1
  have hn : n < 2 ^ 20 := hk.2.2.2.2.2.1
  refine k_cti_of (eX12_isOther ok.2 (mX12_isOther_0 (c_X12_hasAt ok hk hx hv) ?_))
  rintro _ _ ⟨hr, rfl⟩
  rw [hr]
  refine mX12_isOther_6 (by rw [e0]; exact c_X12_hasAt ok hk hx (by omega)) ?_
  rintro _ _ ⟨hr, rfl⟩
  rw [hr]
  refine bX12_isOther_15 (fun c1 => ?_) (fun c1 => mX12_isOther_18 (c_X12_valueAt ok hk hx hv) ?_)
  · have c2 : ¬ (r_val x.1 v L).isSome = (r_val x.1 n L).isSome := fun z => c1 (kB_eq.mpr z)
    exact bX12_isOther_36 (bX12_isOther_41 (Or.inr rfl) ⟨_, rfl, s, rfl, rfl, by unfold bb_oth bb_dif; rw [decide_eq_false c2]; rfl⟩)
  · have c2 := kB_eq.mp c1
    rintro _ _ ⟨hr, rfl⟩
    rw [hr]
    refine mX12_isOther_24 (by rw [e0]; exact c_X12_valueAt ok hk hx (by omega)) ?_
    rintro _ _ ⟨hr, rfl⟩
    rw [hr]
    refine bX12_isOther_33 (fun c3 => bX12_isOther_40 (bX12_isOther_41 (Or.inl rfl) ⟨_, rfl, s, rfl, rfl, ?_⟩)) (fun c3 => bX12_isOther_36 (bX12_isOther_41 (Or.inr rfl) ⟨_, rfl, s, rfl, rfl, ?_⟩))
    · unfold bb_oth bb_dif
      rw [decide_eq_true c2, decide_eq_true c3]
      rfl
    · unfold bb_oth bb_dif
      rw [decide_eq_false c3, Bool.not_false, Bool.or_true]
      rfl
theorem c_X12_bringBack (ok : k_ok G l) {b : Nat} {s : m_S} {h : k_H} {M : s_M} {x : Int32} (hM : m_M s M) (hn : g_n M + 1 < 9000) (hpk : g_pk M) (hmk : ∀ v ∈ g_MK M, v ≤ g_n M) (hlim : ∀ v ∈ g_MK M, g_ps M (bb_E M v) ∧ e_lim (bb_E M v)) :
    k_cti (tX12_bringBack G l) [vR (some b), vI x] (m_hp b s h) (m_p b h (m_R (F_bringBack M x))) := by
  obtain ⟨w1, w2, w3⟩ := id hM.2.2.2.2.1
  refine k_cti_of (eX12_bringBack ok.2 (mX12_bringBack_0 (by rw [w1]; exact m_stI (c_X12_isIn ok)) ?_))
  rintro _ _ ⟨hr, rfl⟩
  rw [hr]
  cases hin : s_inB x 0 (nI (g_MK M).length - 1) with
  | false =>
    have hF : F_bringBack M x = (M, 1, 0) := by unfold F_bringBack; rw [if_pos hin]
    rw [hF]
    refine bX12_bringBack_12 (fun _ => bX12_bringBack_19 (mX12_bringBack_20 (c_X12_goes ok) ?_)) (fun z => absurd rfl z)
    rintro _ _ ⟨hr, rfl⟩
    rw [hr]
    exact bX12_bringBack_23 (fun z => absurd rfl z) (fun _ => bX12_bringBack_26 ⟨_, rfl, _, rfl, m_thr (k := 1) hM (by decide)⟩)
  | true =>
    obtain ⟨j, hj, rfl, ej⟩ := s_in_ (by omega) hin
    obtain ⟨v, hv⟩ : ∃ v, (g_MK M)[j]? = some v := ⟨_, List.getElem?_eq_getElem hj⟩
    have hvm : v ∈ g_MK M := List.mem_of_getElem? hv
    have hvn := hmk v hvm
    have hF : F_bringBack M (nI j) = (if 0 < (bb_list M v).length then g_cm M (bb_E M v) else M, 0, nI (bb_list M v).length) := by
      unfold F_bringBack
      rw [hin, if_neg (by decide), ej]
      have e : (g_MK M).getD j 0 = v := by rw [List.getD_eq_getElem?_getD, hv]; rfl
      rw [e]
    rw [hF]
    refine bX12_bringBack_12 (fun z => absurd z (by decide)) (fun _ => bX12_bringBack_15 (mX12_bringBack_20 (c_X12_goes ok) ?_))
    rintro _ _ ⟨hr, rfl⟩
    rw [hr]
    obtain ⟨a1, a2⟩ := m_ok hM
    generalize m_si s 52 0 = r at a1 a2
    have k1 := a1.1.1.1.1
    have k2 := a1.1.1.1.2.1
    have hsrt := a1.1.1.1.2.2.2
    have yj : vp_in (nI j) 10 := m_ii (by omega) (by omega)
    have ej2 : (nI j).toNatClampNeg = j := nI_clamp (by omega)
    have e34 : r.2.1 34 j = nI v := a1.2.2.2.2.1.2.2 j v hv
    have hml : (bb_list M v).length ≤ (g_E M).1.length := List.length_filter_le _ _
    generalize hmany : (bb_list M v).length = many at hml
    -- the second loop
    have main : k_X (jX12_bringBack G l (m_hp b s h)) (m_hp b r h) 68 [(0, vR (some b)), (1, vI (nI j)), (2, vI (nI many))] [] (q_i (m_p b h (m_R (if 0 < many then g_cm M (bb_E M v) else M, 0, nI many)))) := by
      by_cases hm : 0 < many
      · rw [if_pos hm]
        obtain ⟨hps, hl⟩ := hlim v hvm
        have hng : ¬ nI many ≤ 0 := nI_ge (a := 0) hm (by omega)
        refine bX12_bringBack_68 (fun z => absurd z hng) (fun _ => mX12_bringBack_72 (cm_open ok a1 (by omega)) ?_)
        rintro r1 ⟨o1, o2, o3⟩
        have key : ∀ (d i : Nat) (q : m_S) (E : e_S), (g_E M).1.length - i = d → i ≤ (g_E M).1.length → m_E q E (g_n M + 1) → E.1 = (g_E M).1 → m_fr [2, 5] [1, 2, 3, 4, 5, 6] r1 q → (∀ k y, i ≤ k → (g_E M).1[k]? = some y → ∀ m, r_val y.1 m E.2.1 = r_val y.1 m (g_E M).2.1) →
            (((g_E M).1.drop i).filter (fun y => bb_oth (g_E M).2.1 (g_n M) v y.1)).foldl (fun E y => e_put (g_n M + 1) y.1 (r_val y.1 v (g_E M).2.1) E) E = bb_E M v →
            k_X (jX12_bringBack G l (m_hp b s h)) (m_hp b q h) 78 [(0, vR (some b)), (1, vI (nI j)), (2, vI (nI many)), (3, vI (nI i))] [] (q_i (m_p b h (m_R (g_cm M (bb_E M v), 0, nI many)))) := by
          intro d
          induction d with
          | zero =>
            intro i q E hd hi hE hE1 hf hval he
            have e2 : q.1 2 = nI (g_E M).1.length := by rw [← hE1]; exact hE.1.1.1
            rw [List.drop_eq_nil_of_le (by omega)] at he
            have he2 : E = bb_E M v := he
            rw [he2] at hE
            refine mX12_bringBack_78 (fun _ => bX12_bringBack_155 (fun z => absurd z hng) (fun _ => mX12_bringBack_159 (cm_close ok a1 o2 o3 hE (m_fr_mono hf (by simp) (by simp)) hpk hps) ?_)) (fun z => absurd (by rw [e2]; exact nI_le (by omega) (by omega)) z)
            rintro r2 ⟨z1, z2⟩
            exact bX12_bringBack_163 ⟨_, rfl, r2, rfl, z1, (z2.1 52 (by simp)).trans a2, fun _ => rfl⟩
          | succ d ih =>
            intro i q E hd hi hE hE1 hf hval he
            have e2 : q.1 2 = nI (g_E M).1.length := by rw [← hE1]; exact hE.1.1.1
            have hlt : i < (g_E M).1.length := by omega
            obtain ⟨y, hy⟩ : ∃ y, (g_E M).1[i]? = some y := ⟨_, List.getElem?_eq_getElem hlt⟩
            have hyE : E.1[i]? = some y := by rw [hE1]; exact hy
            obtain ⟨y1, y2, y3⟩ := hE.1.1.2.2.1 _ _ hyE
            have yi : vp_in (nI i) 12000 := m_ii (by omega) (by omega)
            have ei : (nI i).toNatClampNeg = i := nI_clamp (by omega)
            have eq34 : q.2.1 34 j = nI v := by rw [(hf.2 34 (by simp)).1, (o3.2 34 (by simp)).1]; exact e34
            have hv1 := hval i y (Nat.le_refl _) hy
            rw [rs_drop hy] at he
            have en : r_val y.1 (g_n M + 1) (g_E M).2.1 = r_val y.1 (g_n M) (g_E M).2.1 := r_val_adv a1.1.1.2.2.2.2.2.2.1 (Nat.le_succ _)
            have eo : bb_oth E.2.1 (g_n M + 1) v y.1 = bb_oth (g_E M).2.1 (g_n M) v y.1 := by
              unfold bb_oth
              rw [hv1, hv1, en]
            have nx : ∀ (q2 : m_S) (E2 : e_S), m_E q2 E2 (g_n M + 1) → E2.1 = (g_E M).1 → m_fr [2, 5] [1, 2, 3, 4, 5, 6] r1 q2 → (∀ k y, i + 1 ≤ k → (g_E M).1[k]? = some y → ∀ m, r_val y.1 m E2.2.1 = r_val y.1 m (g_E M).2.1) →
                (((g_E M).1.drop (i + 1)).filter (fun y => bb_oth (g_E M).2.1 (g_n M) v y.1)).foldl (fun E y => e_put (g_n M + 1) y.1 (r_val y.1 v (g_E M).2.1) E) E2 = bb_E M v →
                k_X (jX12_bringBack G l (m_hp b s h)) (m_hp b q2 h) 149 [(0, vR (some b)), (1, vI (nI j)), (2, vI (nI many)), (3, vI (nI i))] [] (q_i (m_p b h (m_R (g_cm M (bb_E M v), 0, nI many)))) := by
              intro q2 E2 u1 u2 u3 u4 u5
              refine bX12_bringBack_149 ?_
              rw [nI_1]
              exact ih (i + 1) q2 E2 (by omega) (by omega) u1 u2 u3 u4 u5
            refine mX12_bringBack_78 (fun z => absurd z (by rw [e2]; exact nI_ge hlt (by omega))) (fun _ => bX12_bringBack_86 (fun z => absurd z hng) (fun _ => mX12_bringBack_90 yj (by rw [ej2, eq34]; exact c_X12_isOther ok hE.1 hyE (by omega)) ?_))
            rintro _ _ ⟨hr, rfl⟩
            rw [hr, eo]
            refine bX12_bringBack_101 (fun c1 => ?_) (fun c1 => ?_)
            · rw [kB_0] at c1
              rw [List.filter_cons_of_neg (by rw [c1]; decide)] at he
              exact nx q E hE hE1 hf (fun k z hk hz => hval k z (by omega) hz) he
            · rw [kB_n0] at c1
              rw [List.filter_cons_of_pos (by rw [c1]), List.foldl_cons] at he
              have hle := bb_E_le (g_n M + 1) (fun c => r_val c v (g_E M).2.1) (((g_E M).1.drop (i + 1)).filter (fun y => bb_oth (g_E M).2.1 (g_n M) v y.1)) (e_put (g_n M + 1) y.1 (r_val y.1 v (g_E M).2.1) E)
              have hl2 : e_lim (e_put (g_n M + 1) y.1 (r_val y.1 v (g_E M).2.1) E) := e_lim_le hl (by rw [← he]; exact hle)
              refine mX12_bringBack_104 yj (by rw [ej2, eq34]; exact c_X12_hasAt ok hE.1 hyE (by omega)) ?_
              rintro _ _ ⟨hr, rfl⟩
              rw [hr, hv1]
              have put : ∀ w : Int32, w = (r_val y.1 v (g_E M).2.1).getD 0 → k_X (jX12_bringBack G l (m_hp b s h)) (m_hp b q h) 146 [(0, vR (some b)), (1, vI (nI j)), (2, vI (nI many)), (3, vI (nI i))] [vI w, vI (kB (r_val y.1 v (g_E M).2.1).isSome), vJ (lN y.1), vR (some b)] (q_i (m_p b h (m_R (g_cm M (bb_E M v), 0, nI many)))) := by
                intro w hw
                rw [hw]
                refine mX12_bringBack_146 (c_e_put ok hE y3 hl2) ?_
                rintro q2 ⟨u1, u2⟩
                refine nx q2 _ u1 ?_ (m_fr_trans hf u2) (fun k z hk hz m => ?_) he
                · show m_ins y.1 E.1 = _
                  rw [hE1, m_ins_in hsrt (a := y.2) (List.mem_of_getElem? hy)]
                · have := r_srt hsrt (i := i) (j := k) (by omega) hy hz
                  rw [r_val_put_ne (show ¬ y.1 = z.1 by omega)]
                  exact hval k z (by omega) hz m
              refine mX12_bringBack_115 yi (fun c2 => ?_) (fun c2 => ?_)
              · rw [kB_0] at c2
                rw [ei, y1]
                refine bX12_bringBack_145 (put 0 ?_)
                cases ev : r_val y.1 v (g_E M).2.1 with
                | none => rfl
                | some u => rw [ev] at c2; cases c2
              · rw [kB_n0] at c2
                rw [ei, y1]
                refine mX12_bringBack_131 yj (by rw [ej2, eq34]; exact c_X12_valueAt ok hE.1 hyE (by omega)) ?_
                rintro _ _ ⟨hr, rfl⟩
                rw [hr, hv1]
                refine bX12_bringBack_142 (put _ ?_)
                cases ev : r_val y.1 v (g_E M).2.1 with
                | none => rw [ev] at c2; cases c2
                | some u => rfl
        exact bX12_bringBack_76 (key _ 0 r1 (g_E M) rfl (Nat.zero_le _) o1 rfl (m_fr_refl _ _ _) (fun _ _ _ _ _ => rfl) rfl)
      · rw [if_neg hm]
        have hm0 : many = 0 := by omega
        have hle0 : nI many ≤ 0 := by rw [hm0]; decide
        have fin : k_X (jX12_bringBack G l (m_hp b s h)) (m_hp b r h) 155 [(0, vR (some b)), (2, vI (nI many))] [] (q_i (m_p b h (m_R (M, 0, nI many)))) := bX12_bringBack_155 (fun _ => bX12_bringBack_163 ⟨_, rfl, r, rfl, a1, a2, fun _ => rfl⟩) (fun z => absurd hle0 z)
        exact bX12_bringBack_68 (fun _ => bX12_bringBack_76 (mX12_bringBack_78 (fun _ => fin) (fun _ => bX12_bringBack_86 (fun _ => fin) (fun z => absurd hle0 z)))) (fun z => absurd hle0 z)
    -- the first loop
    have key1 : ∀ (d i acc : Nat), (g_E M).1.length - i = d → i ≤ (g_E M).1.length → acc + (((g_E M).1.drop i).filter (fun y => bb_oth (g_E M).2.1 (g_n M) v y.1)).length = many →
        k_X (jX12_bringBack G l (m_hp b s h)) (m_hp b r h) 32 [(0, vR (some b)), (1, vI (nI j)), (2, vI (nI acc)), (3, vI (nI i))] [] (q_i (m_p b h (m_R (if 0 < many then g_cm M (bb_E M v) else M, 0, nI many)))) := by
      intro d
      induction d with
      | zero =>
        intro i acc hd hi he
        rw [List.drop_eq_nil_of_le (by omega)] at he
        have he2 : acc = many := he
        rw [he2]
        exact mX12_bringBack_32 (fun _ => main) (fun z => absurd (by rw [k1]; exact nI_le (by omega) (by omega)) z)
      | succ d ih =>
        intro i acc hd hi he
        have hlt : i < (g_E M).1.length := by omega
        obtain ⟨y, hy⟩ : ∃ y, (g_E M).1[i]? = some y := ⟨_, List.getElem?_eq_getElem hlt⟩
        rw [rs_drop hy] at he
        refine mX12_bringBack_32 (fun z => absurd z (by rw [k1]; exact nI_ge hlt (by omega))) (fun _ => mX12_bringBack_40 yj (by rw [ej2, e34]; exact c_X12_isOther ok a1.1.1 hy (by omega)) ?_)
        rintro _ _ ⟨hr, rfl⟩
        rw [hr]
        refine bX12_bringBack_52 (fun c1 => bX12_bringBack_59 (bX12_bringBack_60 ?_)) (fun c1 => bX12_bringBack_55 (bX12_bringBack_60 ?_))
        · rw [kB_0] at c1
          rw [List.filter_cons_of_neg (by rw [c1]; decide)] at he
          rw [nI_1, show (0 : Int32) = nI 0 from rfl, nI_add]
          exact ih (i + 1) (acc + 0) (by omega) (by omega) he
        · rw [kB_n0] at c1
          rw [List.filter_cons_of_pos (by rw [c1]), List.length_cons] at he
          rw [nI_1, nI_1]
          exact ih (i + 1) (acc + 1) (by omega) (by omega) (by omega)
    exact bX12_bringBack_23 (fun _ => bX12_bringBack_28 (key1 _ 0 0 rfl (Nat.zero_le _) (by rw [← hmany, Nat.zero_add]; rfl))) (fun z => absurd z (by decide))
end MBB
