/-! WHAT A TRANSACTION OWNS; changes and spans are made -/
section OW
variable {G : k_G} {l : Launch}
theorem c_X9_owns (ok : k_ok G l) {h : k_H} {t aL cap lo hi n : Nat} {f1 f2 f3 f4 f5 f6 f7 : k_V} {CS : List k_CH} (ht : h.1 t = some (k_o 12 [vR (some aL), f1, f2, f3, f4, f5, f6, f7])) (hcs : r_cs h aL cap CS) (hlo : lo < 2 ^ 62) (hhi : hi < 2 ^ 62) (hn : n < 2 ^ 30) :
    k_cti (tX9_owns G l) [vR (some t), vJ (lN lo), vJ (lN hi), vI (nI n)] h (fun h' v => h' = h ∧ v = kB (s_own (CS.take n) lo hi)) := by
  obtain ⟨k1, k2, k3⟩ := hcs
  refine k_cti_of (eX9_owns ok.2 (bX9_owns_0 ?_))
  have key : ∀ (d i : Nat), CS.length - i = d → i ≤ CS.length → s_own (CS.take n) lo hi = s_own ((CS.take n).drop i) lo hi →
      k_X (jX9_owns G l h) h 3 [(0, vR (some t)), (1, vJ (lN lo)), (3, vJ (lN hi)), (5, vI (nI n)), (6, vI (nI i))] [] (q_i (fun h' v => h' = h ∧ v = kB (s_own (CS.take n) lo hi))) := by
    intro d
    induction d with
    | zero =>
      intro i hd hi9 hz
      refine bX9_owns_3 ht rfl (Or.inr ⟨rfl, _, _, k1⟩) (c_size ok k1) ?_
      rintro h1 v ⟨hh, rfl⟩
      rw [hh, List.length_map]
      refine bX9_owns_12 (fun _ => bX9_owns_72 ⟨_, rfl, rfl, ?_⟩) (fun c1 => absurd (nI_le (by omega) (by omega)) c1)
      rw [hz, List.drop_eq_nil_of_le (by rw [List.length_take]; omega)]
      rfl
    | succ d ih =>
      intro i hd hi9 hz
      have hlt : i < CS.length := by omega
      obtain ⟨y, hy⟩ : ∃ y, CS[i]? = some y := ⟨_, List.getElem?_eq_getElem hlt⟩
      have hy2 : (CS.map (fun x => x.1))[i]? = some y.1 := by rw [List.getElem?_map, hy]; rfl
      obtain ⟨m1, m2, m3⟩ := k2 y (List.mem_of_getElem? hy)
      refine bX9_owns_3 ht rfl (Or.inr ⟨rfl, _, _, k1⟩) (c_size ok k1) ?_
      rintro h1 v ⟨hh, rfl⟩
      rw [hh, List.length_map]
      refine bX9_owns_12 (fun c1 => absurd c1 (nI_ge hlt (by omega))) (fun _ => ?_)
      refine bX9_owns_15 (fun c1 => ?_) (fun c1 => ?_)
      · have c2 := (nI_leI (by omega) (by omega)).mp c1
        refine bX9_owns_72 ⟨_, rfl, rfl, ?_⟩
        rw [hz, List.drop_eq_nil_of_le (by rw [List.length_take]; omega)]
        rfl
      · have c2 : ¬ n ≤ i := fun z => c1 ((nI_leI (by omega) (by omega)).mpr z)
        have hlt2 : i < (CS.take n).length := by rw [List.length_take]; omega
        have hdrop : (CS.take n).drop i = y :: (CS.take n).drop (i + 1) := by
          rw [List.drop_eq_getElem_cons hlt2]
          congr 1
          rw [List.getElem_take]
          exact (List.getElem?_eq_some_iff.mp hy).2
        refine bX9_owns_22 ht rfl (Or.inr ⟨rfl, _, _, k1⟩) (c_get ok k1 hy2) ?_
        rintro h1 v ⟨hh, rfl⟩
        rw [hh]
        refine bX9_owns_31 m1 (c_X1_saysAll ok m1) ?_
        rintro h1 v ⟨hh, rfl⟩
        rw [hh]
        have next : (s_all y.2.1 && decide (y.2.2.1 ≤ lo) && decide (hi ≤ y.2.2.2.1)) = false → k_X (jX9_owns G l h) h 66 [(0, vR (some t)), (1, vJ (lN lo)), (3, vJ (lN hi)), (5, vI (nI n)), (6, vI (nI i))] [] (q_i (fun h' v => h' = h ∧ v = kB (s_own (CS.take n) lo hi))) := fun hf => by
          refine bX9_owns_66 ?_
          rw [nI_1]
          refine ih (i + 1) (by omega) (by omega) ?_
          rw [hz, hdrop]
          unfold s_own
          rw [List.any_cons, hf, Bool.false_or]
        refine bX9_owns_41 (fun c3 => ?_) (fun c3 => ?_)
        · rw [kB_0] at c3
          exact next (by rw [c3]; rfl)
        · rw [kB_n0] at c3
          refine bX9_owns_44 m1 rfl (fun c4 => ?_) (fun c4 => ?_)
          · have c5 := (lX_lt hlo m2).mp c4
            exact next (by rw [decide_eq_false (show ¬ y.2.2.1 ≤ lo by omega), Bool.and_false, Bool.false_and])
          · have c5 : ¬ lo < y.2.2.1 := fun z => c4 ((lX_lt hlo m2).mpr z)
            refine bX9_owns_54 m1 rfl (fun c6 => ?_) (fun c6 => ?_)
            · have c7 := (lX_lt m3 hhi).mp c6
              exact next (by rw [decide_eq_false (show ¬ hi ≤ y.2.2.2.1 by omega), Bool.and_false])
            · have c7 : ¬ y.2.2.2.1 < hi := fun z => c6 ((lX_lt m3 hhi).mpr z)
              refine bX9_owns_64 ⟨_, rfl, rfl, ?_⟩
              rw [hz, hdrop]
              unfold s_own
              rw [List.any_cons, c3, decide_eq_true (show y.2.2.1 ≤ lo by omega), decide_eq_true (show hi ≤ y.2.2.2.1 by omega)]
              rfl
  exact key _ 0 rfl (Nat.zero_le _) rfl
theorem c_X1_init (ok : k_ok G l) {h : k_H} {a : Nat} {k v p : Int32} {lo hi : Int64} {u0 u1 u2 u3 u4 : k_V} (ho : h.1 a = some (k_o 4 [u0, u1, u2, u3, u4])) : k_ctv (tX1_init G l) [vR (some a), vI k, vJ lo, vJ hi, vI v, vI p] h (fun h' => h' = k_up h a (k_o 4 [vI k, vJ lo, vJ hi, vI v, vI p])) := by
  refine k_ctv_of (eX1_init ok.2 (bX1_init_0 ho rfl (bX1_init_9 (k_up_self _ _ _) rfl (bX1_init_14 (k_up_self _ _ _) rfl (bX1_init_20 (k_up_self _ _ _) rfl (bX1_init_26 (k_up_self _ _ _) rfl (bX1_init_32 ⟨rfl, ?_⟩)))))))
  rw [k_uu, k_uu, k_uu, k_uu]
  rfl
theorem c_X7_init (ok : k_ok G l) {h : k_H} {a : Nat} {p : Int32} {lo hi : Int64} {u0 u1 u2 : k_V} (ho : h.1 a = some (k_o 10 [u0, u1, u2])) : k_ctv (tX7_init G l) [vR (some a), vJ lo, vJ hi, vI p] h (fun h' => h' = k_up h a (k_o 10 [vJ lo, vJ hi, vI p])) := by
  refine k_ctv_of (eX7_init ok.2 (bX7_init_0 ho rfl (bX7_init_9 (k_up_self _ _ _) rfl (bX7_init_14 (k_up_self _ _ _) rfl (bX7_init_20 ⟨rfl, ?_⟩)))))
  rw [k_uu, k_uu]
  rfl
theorem el_chg {h : k_H} {a : Nat} {fs : List k_V} (ho : h.1 a = some (k_o 4 fs)) : k_el h a := ⟨4, k_is_o ho, k_to (C := "Keyterrace$Change") rfl (by simp [k_casts])⟩
theorem el_spn {h : k_H} {a : Nat} {fs : List k_V} (ho : h.1 a = some (k_o 10 fs)) : k_el h a := ⟨10, k_is_o ho, k_to (C := "Keyterrace$Span") rfl (by simp [k_casts])⟩
/-- a change of one key is kept -/
theorem c_X9_keepKey (ok : k_ok G l) {h : k_H} {t aL cap c : Nat} {k v kept : Int32} {f1 f2 f3 f4 f5 f6 : k_V} {CS : List k_CH} (wh : k_wf h) (ht : h.1 t = some (k_o 12 [vR (some aL), f1, f2, f3, f4, f5, f6, vI kept])) (hcs : r_cs h aL cap CS) :
    k_ctv (tX9_keepKey G l) [vR (some t), vI k, vJ (lN c), vI v] h (fun h' => h' = k_up (k_gr (k_nw h 5 (o_chg (h.2.1, k, c, c + 1, v, 0))) aL (CS.map (fun x => x.1) ++ [h.2.1]) CS.length cap) t (k_o 12 [vR (some aL), f1, f2, f3, f4, f5, f6, vI (kept + 1)])) := by
  obtain ⟨k1, k2, k3⟩ := hcs
  have tl : t ≠ aL := fun z => by subst z; rw [k1] at ht; cases ht
  refine k_ctv_of (eX9_keepKey ok.2 (bX9_keepKey_0 ht rfl (bX9_keepKey_7 (c_X1_init ok (k_nw_self _ _ _)) ?_)))
  rintro h1 hh
  rw [hh, up_nw]
  have e1 : lN c + 1 = lN (c + 1) := lN_1 c
  rw [e1]
  have hk2 := nw_old (n := 5) (c := o_chg (h.2.1, k, c, c + 1, v, 0)) wh k1
  refine bX9_keepKey_19 (Or.inr ⟨rfl, _, _, hk2⟩) (c_add ok (k_wf_nw wh) hk2 (by rw [List.length_map]; exact k3) (fun z hz => ?_) (el_chg (k_nw_self _ _ _))) ?_
  · obtain ⟨y, hy, rfl⟩ := List.mem_map.mp hz
    exact el_chg (nw_old wh (k2 y hy).1)
  · rintro h1 v ⟨hh, rfl⟩
    rw [hh, List.length_map]
    have hg : ∀ ys n, (k_gr (k_nw h 5 (o_chg (h.2.1, k, c, c + 1, v, 0))) aL ys n cap).1 t = (k_nw h 5 (o_chg (h.2.1, k, c, c + 1, v, 0))).1 t := fun ys n => by
      unfold k_gr
      split
      · exact k_up_ne _ _ tl
      · exact k_up_ne (k_nw h 5 (o_chg (h.2.1, k, c, c + 1, v, 0))) _ tl
    refine bX9_keepKey_22 ((hg _ _).trans (nw_old wh ht)) rfl rfl (bX9_keepKey_33 ⟨rfl, rfl⟩)
end OW
