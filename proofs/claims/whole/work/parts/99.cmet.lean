/-! WHAT A READING MET, in the class -/
def cm_1 (CS : List k_CH) (sp : k_SP) (ra : Nat) (x : k_E4) : Bool := decide (ra < x.2.2.1) && decide (sp.2.1 ≤ x.2.1) && decide (x.2.1 < sp.2.2.1) && !s_own (CS.take sp.2.2.2) x.2.1 (x.2.1 + 1)
def cm_2 (CS : List k_CH) (sp : k_SP) (ra : Nat) (w : k_SP) : Bool := decide (ra < w.2.2.2) && decide (max sp.2.1 w.2.1 < min sp.2.2.1 w.2.2.1) && !s_own (CS.take sp.2.2.2) (max sp.2.1 w.2.1) (min sp.2.2.1 w.2.2.1)
theorem lN_max {a b : Nat} (ha : a < 2 ^ 62) (hb : b < 2 ^ 62) : (if lN b < lN a then lN a else lN b) = lN (max a b) := by
  by_cases c : b < a
  · rw [if_pos ((lX_lt hb ha).mpr c)]; congr 1; omega
  · rw [if_neg (fun z => c ((lX_lt hb ha).mp z))]; congr 1; omega
theorem lN_min {a b : Nat} (ha : a < 2 ^ 62) (hb : b < 2 ^ 62) : (if lN b < lN a then lN b else lN a) = lN (min a b) := by
  by_cases c : b < a
  · rw [if_pos ((lX_lt hb ha).mpr c)]; congr 1; omega
  · rw [if_neg (fun z => c ((lX_lt hb ha).mp z))]; congr 1; omega
section CMT
variable {G : k_G} {l : Launch}
theorem c_keyMet (ok : k_ok G l) {a T aL cap n ra : Nat} {h : k_H} {M : s_M} {KS : List k_K2} {L : List k_E4} {WS : List k_SP} {z : Option Int32 × Bool} {f1 f2 f3 f5 f6 f7 : k_V} {CS : List k_CH} {sp : k_SP} (st : c_st a h KS L WS n z) (r3 : c_ob a h M) (ot : h.1 T = some (k_o 12 [vR (some aL), f1, f2, f3, vI (nI ra), f5, f6, f7])) (hcs : r_cs h aL cap CS) (hs : h.1 sp.1 = some (o_spn sp)) (b : sp.2.1 < 2 ^ 62 ∧ sp.2.2.1 < 2 ^ 62 ∧ sp.2.2.2 < 2 ^ 30) (hra : ra < 2 ^ 31) :
    k_cti (tX11_keyMet G l) [vR (some a), vR (some T), vR (some sp.1)] h (fun h' v => h' = h ∧ v = kB (L.any (cm_1 CS sp ra))) := by
  obtain ⟨cK, cW, cH, xs, ka, ⟨s1, s2, s3, s4, s5⟩, ⟨t1, t2, t3, t4⟩, ⟨g1, g2, g3⟩, tW, tn, ta, tw⟩ := id st
  refine k_cti_of (eX11_keyMet ok.2 (bX11_keyMet_0 r3 rfl s1 rfl ?_))
  have key : ∀ suf : List k_E4, r_log h ka suf → (∀ x ∈ suf, x ∈ L) → suf.Pairwise (fun x y => y.2.2.1 ≤ x.2.2.1) → L.any (cm_1 CS sp ra) = suf.any (cm_1 CS sp ra) →
      k_X (jX11_keyMet G l h) h 8 [(1, vR (some T)), (2, vR (some sp.1)), (3, vR (suf.head?.map (fun y => y.1)))] [] (q_i (fun h' v => h' = h ∧ v = kB (L.any (cm_1 CS sp ra)))) := by
    intro suf
    induction suf with
    | nil =>
      intro _ _ _ hr
      refine bX11_keyMet_8 (fun _ => bX11_keyMet_79 ⟨_, rfl, rfl, ?_⟩) (fun a e => by cases e)
      rw [hr]; rfl
    | cons x t ih =>
      intro hl hm hp hr
      have hxL := hm x List.mem_cons_self
      have hv := g1 x hxL
      obtain ⟨q, hq⟩ := t2 x hxL
      have hks := t1.1 _ hq
      have hk : h.1 (ka x.2.1) = some (o_key x.2.1 L) := by rw [t4 _ hq]; exact hks.2
      have next : cm_1 CS sp ra x = false → k_X (jX11_keyMet G l h) h 71 [(1, vR (some T)), (2, vR (some sp.1)), (3, vR (some x.1))] [] (q_i (fun h' v => h' = h ∧ v = kB (L.any (cm_1 CS sp ra)))) := fun hc => by
        refine bX11_keyMet_71 hl.1 rfl ?_
        refine ih hl.2 (fun y hy => hm y (List.mem_cons_of_mem _ hy)) (List.pairwise_cons.mp hp).2 ?_
        rw [hr, List.any_cons, hc, Bool.false_or]
      refine bX11_keyMet_8 (fun e => by cases e) (fun a _ => ?_)
      refine bX11_keyMet_12 hl.1 rfl ot rfl (fun c => ?_) (fun c => ?_)
      · have c' := (nI_leI (by omega) hra).mp c
        refine bX11_keyMet_79 ⟨_, rfl, rfl, ?_⟩
        have : (x :: t).any (cm_1 CS sp ra) = false := by
          rw [List.any_eq_false]
          intro y hy
          have : y.2.2.1 ≤ x.2.2.1 := by
            rcases List.mem_cons.mp hy with e | e
            · rw [e]; exact Nat.le_refl _
            · exact (List.pairwise_cons.mp hp).1 y e
          unfold cm_1
          rw [decide_eq_false (show ¬ ra < y.2.2.1 by omega)]
          simp
        rw [hr, this]; rfl
      · have c' : ra < x.2.2.1 := by
          by_cases e : x.2.2.1 ≤ ra
          · exact absurd ((nI_leI (by omega) hra).mpr e) c
          · omega
        refine bX11_keyMet_23 hl.1 rfl hk rfl hs rfl (fun d => ?_) (fun d => ?_)
        · have d' := (lX_lt (by omega) b.1).mp d
          refine next ?_
          unfold cm_1
          rw [decide_eq_false (show ¬ sp.2.1 ≤ x.2.1 by omega)]
          simp
        · have d' : sp.2.1 ≤ x.2.1 := by
            by_cases e : x.2.1 < sp.2.1
            · exact absurd ((lX_lt (by omega) b.1).mpr e) d
            · omega
          refine bX11_keyMet_42 hs rfl (fun e => ?_) (fun e => ?_)
          · have e' := (lX_le b.2.1 (by omega)).mp e
            refine next ?_
            unfold cm_1
            rw [decide_eq_false (show ¬ x.2.1 < sp.2.2.1 by omega)]
            simp
          · have e' : x.2.1 < sp.2.2.1 := by
              by_cases f : sp.2.2.1 ≤ x.2.1
              · exact absurd ((lX_le b.2.1 (by omega)).mpr f) e
              · omega
            have ho := c_X9_owns ok (lo := x.2.1) (hi := x.2.1 + 1) (n := sp.2.2.2) ot hcs (by omega) (by omega) b.2.2
            rw [← lN_add x.2.1 1] at ho
            refine bX11_keyMet_52 hs rfl (k_is_o ot) ho ?_
            rintro _ _ ⟨hh, rfl⟩
            rw [hh]
            refine bX11_keyMet_66 (fun f => next ?_) (fun f => bX11_keyMet_69 ⟨_, rfl, rfl, ?_⟩)
            · rw [kB_n0] at f
              unfold cm_1
              rw [f]
              simp
            · rw [kB_0] at f
              rw [hr, List.any_cons]
              unfold cm_1
              rw [f, decide_eq_true c', decide_eq_true d', decide_eq_true e']
              rfl
  exact key L t3 (fun x hx => hx) g2 rfl
theorem c_wipeMet (ok : k_ok G l) {a T aL cap n ra : Nat} {h : k_H} {M : s_M} {KS : List k_K2} {L : List k_E4} {WS : List k_SP} {z : Option Int32 × Bool} {f1 f2 f3 f5 f6 f7 : k_V} {CS : List k_CH} {sp : k_SP} (st : c_st a h KS L WS n z) (r3 : c_ob a h M) (ot : h.1 T = some (k_o 12 [vR (some aL), f1, f2, f3, vI (nI ra), f5, f6, f7])) (hcs : r_cs h aL cap CS) (hs : h.1 sp.1 = some (o_spn sp)) (b : sp.2.1 < 2 ^ 62 ∧ sp.2.2.1 < 2 ^ 62 ∧ sp.2.2.2 < 2 ^ 30) (hra : ra < 2 ^ 31) (hW : WS.Pairwise (fun x y => x.2.2.2 ≤ y.2.2.2)) (hl : WS.length < 2 ^ 20) :
    k_cti (tX11_wipeMet G l) [vR (some a), vR (some T), vR (some sp.1)] h (fun h' v => h' = h ∧ v = kB (WS.any (cm_2 CS sp ra))) := by
  obtain ⟨cK, cW, cH, xs, ka, ⟨s1, s2, s3, s4, s5⟩, ⟨t1, t2, t3, t4⟩, ⟨g1, g2, g3⟩, tW, tn, ta, tw⟩ := id st
  refine k_cti_of (eX11_wipeMet ok.2 (bX11_wipeMet_0 r3 rfl s1 rfl (Or.inr ⟨rfl, _, _, s3⟩) (c_size ok s3) ?_))
  rintro _ _ ⟨hh, rfl⟩
  rw [hh, List.length_map]
  refine bX11_wipeMet_10 ?_
  have key : ∀ (k : Nat) (v : Int32), v = nI k + (-1) → k ≤ WS.length → WS.any (cm_2 CS sp ra) = (WS.take k).any (cm_2 CS sp ra) →
      k_X (jX11_wipeMet G l h) h 13 [(0, vR (some a)), (1, vR (some T)), (2, vR (some sp.1)), (3, vI v)] [] (q_i (fun h' v => h' = h ∧ v = kB (WS.any (cm_2 CS sp ra)))) := by
    intro k
    induction k with
    | zero =>
      rintro v rfl _ hr
      refine bX11_wipeMet_13 (fun _ => bX11_wipeMet_106 ⟨_, rfl, rfl, ?_⟩) (fun c => absurd (by decide) c)
      rw [hr]; rfl
    | succ k ih =>
      rintro v rfl hk hr
      rw [nI_m1 (by omega), Nat.add_sub_cancel]
      have hlt : k < WS.length := by omega
      obtain ⟨w, hw⟩ : ∃ w, WS[k]? = some w := ⟨_, List.getElem?_eq_getElem hlt⟩
      have hw2 : (WS.map (fun x => x.1))[k]? = some w.1 := by rw [List.getElem?_map, hw]; rfl
      have hwm := List.mem_of_getElem? hw
      obtain ⟨u1, u2, u3, u4⟩ := tW w hwm
      have htk : WS.take (k + 1) = WS.take k ++ [w] := by rw [List.take_add_one, hw]; rfl
      have next : cm_2 CS sp ra w = false → k_X (jX11_wipeMet G l h) h 100 [(0, vR (some a)), (1, vR (some T)), (2, vR (some sp.1)), (3, vI (nI k))] [] (q_i (fun h' v => h' = h ∧ v = kB (WS.any (cm_2 CS sp ra)))) := fun hc => by
        refine bX11_wipeMet_100 (ih _ rfl (by omega) ?_)
        rw [hr, htk, List.any_append, List.any_cons, hc]
        simp
      refine bX11_wipeMet_13 (fun c => absurd c (fun z => ?_)) (fun _ => ?_)
      · have := (nI_ltI (a := k) (b := 0) (by omega) (by omega)).mp z
        omega
      refine bX11_wipeMet_17 r3 rfl s1 rfl (Or.inr ⟨rfl, _, _, s3⟩) (c_get ok s3 hw2) ?_
      rintro _ _ ⟨hh, rfl⟩
      rw [hh]
      refine bX11_wipeMet_28 u1 rfl ot rfl (fun c => ?_) (fun c => ?_)
      · have c' := (nI_ltI hra (by omega)).mp c
        refine bX11_wipeMet_47 hs rfl u1 rfl rfl rfl (fun d => ?_) (fun d => ?_)
        · rw [lN_max b.1 (by omega), lN_min b.2.1 (by omega)] at d
          have d' := (lX_le (by omega) (by omega)).mp d
          refine next ?_
          unfold cm_2
          rw [decide_eq_false (show ¬ max sp.2.1 w.2.1 < min sp.2.2.1 w.2.2.1 by omega)]
          simp
        · rw [lN_max b.1 (by omega), lN_min b.2.1 (by omega)] at d ⊢
          have d' : max sp.2.1 w.2.1 < min sp.2.2.1 w.2.2.1 := by
            by_cases e : min sp.2.2.1 w.2.2.1 ≤ max sp.2.1 w.2.1
            · exact absurd ((lX_le (by omega) (by omega)).mpr e) d
            · omega
          refine bX11_wipeMet_83 hs rfl (k_is_o ot) (c_X9_owns ok ot hcs (by omega) (by omega) b.2.2) ?_
          rintro _ _ ⟨hh, rfl⟩
          rw [hh]
          refine bX11_wipeMet_95 (fun f => next ?_) (fun f => bX11_wipeMet_98 ⟨_, rfl, rfl, ?_⟩)
          · rw [kB_n0] at f
            unfold cm_2
            rw [f]
            simp
          · rw [kB_0] at f
            have : WS.any (cm_2 CS sp ra) = true := by
              rw [List.any_eq_true]
              refine ⟨w, hwm, ?_⟩
              unfold cm_2
              rw [f, decide_eq_true c', decide_eq_true d']
              rfl
            rw [this]; rfl
      · have c' : w.2.2.2 ≤ ra := by
          by_cases e : ra < w.2.2.2
          · exact absurd ((nI_ltI hra (by omega)).mpr e) c
          · omega
        refine bX11_wipeMet_45 ⟨_, rfl, rfl, ?_⟩
        have : (WS.take (k + 1)).any (cm_2 CS sp ra) = false := by
          rw [List.any_eq_false]
          intro y hy
          have : y.2.2.2 ≤ w.2.2.2 := by
            rw [htk] at hy
            have hp := hW.sublist (List.take_sublist (k + 1) WS)
            rw [htk, List.pairwise_append] at hp
            rcases List.mem_append.mp hy with e | e
            · exact hp.2.2 y e w List.mem_cons_self
            · rw [List.mem_singleton.mp e]; exact Nat.le_refl _
          unfold cm_2
          rw [decide_eq_false (show ¬ ra < y.2.2.2 by omega)]
          simp
        rw [hr, this]; rfl
  refine key WS.length _ (by rw [Int32.sub_eq_add_neg]) (Nat.le_refl _) (by rw [List.take_length])
end CMT
/-- the class's meetings are the reference's -/
theorem cm_met {KS : List k_K2} {L : List k_E4} {WS : List k_SP} {E : e_S} {x ra ser : Nat} {CX : List k_CX} {sp : k_SP} {r : Nat × Nat × Nat} (rE : c_rE KS L WS E x) (hK : ∀ y ∈ KS, y.1 < 1331000000000) (hin : r_in KS L) (hW : ∀ w ∈ WS, w.2.2.1 ≤ 1331000000000) (rr : c_rr CX sp r) :
    (L.any (cm_1 (CX.map (fun y => y.1)) sp ra) || WS.any (cm_2 (CX.map (fun y => y.1)) sp ra)) = s_met (c_mc CX) ra E.2.1 E.2.2 r := by
  obtain ⟨q1, q2, q3, q4⟩ := rr
  obtain ⟨⟨a1, a2, a3⟩, ⟨b1, b2⟩, b3, b4, b5⟩ := rE
  unfold s_met
  congr 1
  · unfold s_met1
    rw [Bool.eq_iff_iff, List.any_eq_true, List.any_eq_true]
    have e1 : ∀ y : k_E4, y.2.1 < 1331000000000 → cm_1 (CX.map (fun y => y.1)) sp ra y = (decide (ra < y.2.2.1) && decide (r.1 ≤ y.2.1) && decide (y.2.1 < r.2.1) && !s_ownS (c_mc CX) r.2.2 y.2.1 (y.2.1 + 1)) := fun y hy => by
      unfold cm_1
      rw [own_mc q3, q1, decide_eq_decide.mpr (show y.2.1 < sp.2.2.1 ↔ y.2.1 < r.2.1 by omega)]
    have lt : ∀ y ∈ L, y.2.1 < 1331000000000 := fun y hy => by obtain ⟨k, hk⟩ := hin y hy; exact hK _ hk
    constructor
    · rintro ⟨y, hy, hc⟩
      obtain ⟨w, hw, h1, h2⟩ := (a2 y.2.1 y.2.2.1).mp ⟨y, hy, rfl, rfl⟩
      rw [e1 y (lt y hy)] at hc
      refine ⟨w, hw, ?_⟩
      rw [h1, h2]; exact hc
    · rintro ⟨w, hw, hc⟩
      obtain ⟨y, hy, h1, h2⟩ := (a2 w.2.1 w.2.2.1).mpr ⟨w, hw, rfl, rfl⟩
      refine ⟨y, hy, ?_⟩
      rw [e1 y (lt y hy), h1, h2]; exact hc
  · unfold s_met2
    rw [← b3, List.any_map]
    rw [Bool.eq_iff_iff, List.any_eq_true, List.any_eq_true]
    have e2 : ∀ w ∈ WS, cm_2 (CX.map (fun y => y.1)) sp ra w = (decide (ra < w.2.2.2) && decide (max r.1 w.2.1 < min r.2.1 w.2.2.1) && !s_ownS (c_mc CX) r.2.2 (max r.1 w.2.1) (min r.2.1 w.2.2.1)) := fun w hw => by
      have := hW w hw
      unfold cm_2
      rw [own_mc q3, q1, show min sp.2.2.1 w.2.2.1 = min r.2.1 w.2.2.1 by omega]
    constructor
    · rintro ⟨w, hw, hc⟩
      rw [e2 w hw] at hc
      exact ⟨w, hw, hc⟩
    · rintro ⟨w, hw, hc⟩
      exact ⟨w, hw, by rw [e2 w hw]; exact hc⟩
