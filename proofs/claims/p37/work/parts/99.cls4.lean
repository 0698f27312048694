section
/-! WHAT A READING MET, in the class -/
def cm_1 (CS : List k_CH) (sp : k_SP) (ra : Nat) (x : k_E4) : Bool := decide (ra < x.2.2.1) && decide (sp.2.1 ≤ x.2.1) && decide (x.2.1 < sp.2.2.1) && !s_own (CS.take sp.2.2.2) x.2.1 (x.2.1 + 1)
def cm_2 (CS : List k_CH) (sp : k_SP) (ra : Nat) (w : k_SP) : Bool := decide (ra < w.2.2.2) && decide (max sp.2.1 w.2.1 < min sp.2.2.1 w.2.2.1) && !s_own (CS.take sp.2.2.2) (max sp.2.1 w.2.1) (min sp.2.2.1 w.2.2.1)
theorem lN_max {a b : Nat} (ha : a < 2 ^ 62) (hb : b < 2 ^ 62) : (if lN b < lN a then lN a else lN b) = lN (max a b) := by
  by_cases c : b < a
  · rw [if_pos ((lX_lt hb ha).mpr c)]; congr 1; omega
  · rw [if_neg (fun z => c ((lX_lt hb ha).mp z))]; congr 1; omega
theorem lN_min {a b : Nat} (ha : a < 2 ^ 62) (hb : b < 2 ^ 62) : (if lN b < lN a then lN b else lN a) = lN (min a b) := by
  by_cases c : b < a
  · rw [if_pos ((lX_lt hb ha).mpr c)]; congr 1; omega
  · rw [if_neg (fun z => c ((lX_lt hb ha).mp z))]; congr 1; omega
section CMT
variable {G : k_G} {l : Launch}
theorem c_keyMet (ok : k_ok G l) {a T aL cap n ra : Nat} {h : k_H} {M : s_M} {KS : List k_K2} {L : List k_E4} {WS : List k_SP} {z : Option Int32 × Bool} {f1 f2 f3 f5 f6 f7 : k_V} {CS : List k_CH} {sp : k_SP} (st : c_st a h KS L WS n z) (r3 : c_ob a h M) (ot : h.1 T = some (k_o 12 [vR (some aL), f1, f2, f3, vI (nI ra), f5, f6, f7])) (hcs : r_cs h aL cap CS) (hs : h.1 sp.1 = some (o_spn sp)) (b : sp.2.1 < 2 ^ 62 ∧ sp.2.2.1 < 2 ^ 62 ∧ sp.2.2.2 < 2 ^ 30) (hra : ra < 2 ^ 31) :
    k_cti (tX11_keyMet G l) [vR (some a), vR (some T), vR (some sp.1)] h (fun h' v => h' = h ∧ v = kB (L.any (cm_1 CS sp ra))) := by
  obtain ⟨cK, cW, cH, xs, ka, ⟨s1, s2, s3, s4, s5⟩, ⟨t1, t2, t3, t4⟩, ⟨g1, g2, g3⟩, tW, tn, ta, tw⟩ := id st
  refine k_cti_of (eX11_keyMet ok.2 (bX11_keyMet_0 r3 rfl s1 rfl ?_))
  have key : ∀ suf : List k_E4, r_log h ka suf → (∀ x ∈ suf, x ∈ L) → suf.Pairwise (fun x y => y.2.2.1 ≤ x.2.2.1) → L.any (cm_1 CS sp ra) = suf.any (cm_1 CS sp ra) →
      k_X (jX11_keyMet G l h) h 8 [(1, vR (some T)), (2, vR (some sp.1)), (3, vR (suf.head?.map (fun y => y.1)))] [] (q_i (fun h' v => h' = h ∧ v = kB (L.any (cm_1 CS sp ra)))) := by
    intro suf
    induction suf with
    | nil =>
      intro _ _ _ hr
      refine bX11_keyMet_8 (fun _ => bX11_keyMet_79 ⟨_, rfl, rfl, ?_⟩) (fun a e => by cases e)
      rw [hr]; rfl
    | cons x t ih =>
      intro hl hm hp hr
      have hxL := hm x List.mem_cons_self
      have hv := g1 x hxL
      obtain ⟨q, hq⟩ := t2 x hxL
      have hks := t1.1 _ hq
      have hk : h.1 (ka x.2.1) = some (o_key x.2.1 L) := by rw [t4 _ hq]; exact hks.2
      have next : cm_1 CS sp ra x = false → k_X (jX11_keyMet G l h) h 71 [(1, vR (some T)), (2, vR (some sp.1)), (3, vR (some x.1))] [] (q_i (fun h' v => h' = h ∧ v = kB (L.any (cm_1 CS sp ra)))) := fun hc => by
        refine bX11_keyMet_71 hl.1 rfl ?_
        refine ih hl.2 (fun y hy => hm y (List.mem_cons_of_mem _ hy)) (List.pairwise_cons.mp hp).2 ?_
        rw [hr, List.any_cons, hc, Bool.false_or]
      refine bX11_keyMet_8 (fun e => by cases e) (fun a _ => ?_)
      refine bX11_keyMet_12 hl.1 rfl ot rfl (fun c => ?_) (fun c => ?_)
      · have c' := (nI_leI (by omega) hra).mp c
        refine bX11_keyMet_79 ⟨_, rfl, rfl, ?_⟩
        have : (x :: t).any (cm_1 CS sp ra) = false := by
          rw [List.any_eq_false]
          intro y hy
          have : y.2.2.1 ≤ x.2.2.1 := by
            rcases List.mem_cons.mp hy with e | e
            · rw [e]; exact Nat.le_refl _
            · exact (List.pairwise_cons.mp hp).1 y e
          unfold cm_1
          rw [decide_eq_false (show ¬ ra < y.2.2.1 by omega)]
          simp
        rw [hr, this]; rfl
      · have c' : ra < x.2.2.1 := by
          by_cases e : x.2.2.1 ≤ ra
          · exact absurd ((nI_leI (by omega) hra).mpr e) c
          · omega
        refine bX11_keyMet_23 hl.1 rfl hk rfl hs rfl (fun d => ?_) (fun d => ?_)
        · have d' := (lX_lt (by omega) b.1).mp d
          refine next ?_
          unfold cm_1
          rw [decide_eq_false (show ¬ sp.2.1 ≤ x.2.1 by omega)]
          simp
        · have d' : sp.2.1 ≤ x.2.1 := by
            by_cases e : x.2.1 < sp.2.1
            · exact absurd ((lX_lt (by omega) b.1).mpr e) d
            · omega
          refine bX11_keyMet_42 hs rfl (fun e => ?_) (fun e => ?_)
          · have e' := (lX_le b.2.1 (by omega)).mp e
            refine next ?_
            unfold cm_1
            rw [decide_eq_false (show ¬ x.2.1 < sp.2.2.1 by omega)]
            simp
          · have e' : x.2.1 < sp.2.2.1 := by
              by_cases f : sp.2.2.1 ≤ x.2.1
              · exact absurd ((lX_le b.2.1 (by omega)).mpr f) e
              · omega
            have ho := c_X9_owns ok (lo := x.2.1) (hi := x.2.1 + 1) (n := sp.2.2.2) ot hcs (by omega) (by omega) b.2.2
            rw [← lN_add x.2.1 1] at ho
            refine bX11_keyMet_52 hs rfl (k_is_o ot) ho ?_
            rintro _ _ ⟨hh, rfl⟩
            rw [hh]
            refine bX11_keyMet_66 (fun f => next ?_) (fun f => bX11_keyMet_69 ⟨_, rfl, rfl, ?_⟩)
            · rw [kB_n0] at f
              unfold cm_1
              rw [f]
              simp
            · rw [kB_0] at f
              rw [hr, List.any_cons]
              unfold cm_1
              rw [f, decide_eq_true c', decide_eq_true d', decide_eq_true e']
              rfl
  exact key L t3 (fun x hx => hx) g2 rfl
theorem c_wipeMet (ok : k_ok G l) {a T aL cap n ra : Nat} {h : k_H} {M : s_M} {KS : List k_K2} {L : List k_E4} {WS : List k_SP} {z : Option Int32 × Bool} {f1 f2 f3 f5 f6 f7 : k_V} {CS : List k_CH} {sp : k_SP} (st : c_st a h KS L WS n z) (r3 : c_ob a h M) (ot : h.1 T = some (k_o 12 [vR (some aL), f1, f2, f3, vI (nI ra), f5, f6, f7])) (hcs : r_cs h aL cap CS) (hs : h.1 sp.1 = some (o_spn sp)) (b : sp.2.1 < 2 ^ 62 ∧ sp.2.2.1 < 2 ^ 62 ∧ sp.2.2.2 < 2 ^ 30) (hra : ra < 2 ^ 31) (hW : WS.Pairwise (fun x y => x.2.2.2 ≤ y.2.2.2)) (hl : WS.length < 2 ^ 20) :
    k_cti (tX11_wipeMet G l) [vR (some a), vR (some T), vR (some sp.1)] h (fun h' v => h' = h ∧ v = kB (WS.any (cm_2 CS sp ra))) := by
  obtain ⟨cK, cW, cH, xs, ka, ⟨s1, s2, s3, s4, s5⟩, ⟨t1, t2, t3, t4⟩, ⟨g1, g2, g3⟩, tW, tn, ta, tw⟩ := id st
  refine k_cti_of (eX11_wipeMet ok.2 (bX11_wipeMet_0 r3 rfl s1 rfl (Or.inr ⟨rfl, _, _, s3⟩) (c_size ok s3) ?_))
  rintro _ _ ⟨hh, rfl⟩
  rw [hh, List.length_map]
  refine bX11_wipeMet_10 ?_
  have key : ∀ (k : Nat) (v : Int32), v = nI k + (-1) → k ≤ WS.length → WS.any (cm_2 CS sp ra) = (WS.take k).any (cm_2 CS sp ra) →
      k_X (jX11_wipeMet G l h) h 13 [(0, vR (some a)), (1, vR (some T)), (2, vR (some sp.1)), (3, vI v)] [] (q_i (fun h' v => h' = h ∧ v = kB (WS.any (cm_2 CS sp ra)))) := by
    intro k
    induction k with
    | zero =>
      rintro v rfl _ hr
      refine bX11_wipeMet_13 (fun _ => bX11_wipeMet_106 ⟨_, rfl, rfl, ?_⟩) (fun c => absurd (by decide) c)
      rw [hr]; rfl
    | succ k ih =>
      rintro v rfl hk hr
      rw [nI_m1 (by omega), Nat.add_sub_cancel]
      have hlt : k < WS.length := by omega
      obtain ⟨w, hw⟩ : ∃ w, WS[k]? = some w := ⟨_, List.getElem?_eq_getElem hlt⟩
      have hw2 : (WS.map (fun x => x.1))[k]? = some w.1 := by rw [List.getElem?_map, hw]; rfl
      have hwm := List.mem_of_getElem? hw
      obtain ⟨u1, u2, u3, u4⟩ := tW w hwm
      have htk : WS.take (k + 1) = WS.take k ++ [w] := by rw [List.take_add_one, hw]; rfl
      have next : cm_2 CS sp ra w = false → k_X (jX11_wipeMet G l h) h 100 [(0, vR (some a)), (1, vR (some T)), (2, vR (some sp.1)), (3, vI (nI k))] [] (q_i (fun h' v => h' = h ∧ v = kB (WS.any (cm_2 CS sp ra)))) := fun hc => by
        refine bX11_wipeMet_100 (ih _ rfl (by omega) ?_)
        rw [hr, htk, List.any_append, List.any_cons, hc]
        simp
      refine bX11_wipeMet_13 (fun c => absurd c (fun z => ?_)) (fun _ => ?_)
      · have := (nI_ltI (a := k) (b := 0) (by omega) (by omega)).mp z
        omega
      refine bX11_wipeMet_17 r3 rfl s1 rfl (Or.inr ⟨rfl, _, _, s3⟩) (c_get ok s3 hw2) ?_
      rintro _ _ ⟨hh, rfl⟩
      rw [hh]
      refine bX11_wipeMet_28 u1 rfl ot rfl (fun c => ?_) (fun c => ?_)
      · have c' := (nI_ltI hra (by omega)).mp c
        refine bX11_wipeMet_47 hs rfl u1 rfl rfl rfl (fun d => ?_) (fun d => ?_)
        · rw [lN_max b.1 (by omega), lN_min b.2.1 (by omega)] at d
          have d' := (lX_le (by omega) (by omega)).mp d
          refine next ?_
          unfold cm_2
          rw [decide_eq_false (show ¬ max sp.2.1 w.2.1 < min sp.2.2.1 w.2.2.1 by omega)]
          simp
        · rw [lN_max b.1 (by omega), lN_min b.2.1 (by omega)] at d ⊢
          have d' : max sp.2.1 w.2.1 < min sp.2.2.1 w.2.2.1 := by
            by_cases e : min sp.2.2.1 w.2.2.1 ≤ max sp.2.1 w.2.1
            · exact absurd ((lX_le (by omega) (by omega)).mpr e) d
            · omega
          refine bX11_wipeMet_83 hs rfl (k_is_o ot) (c_X9_owns ok ot hcs (by omega) (by omega) b.2.2) ?_
          rintro _ _ ⟨hh, rfl⟩
          rw [hh]
          refine bX11_wipeMet_95 (fun f => next ?_) (fun f => bX11_wipeMet_98 ⟨_, rfl, rfl, ?_⟩)
          · rw [kB_n0] at f
            unfold cm_2
            rw [f]
            simp
          · rw [kB_0] at f
            have : WS.any (cm_2 CS sp ra) = true := by
              rw [List.any_eq_true]
              refine ⟨w, hwm, ?_⟩
              unfold cm_2
              rw [f, decide_eq_true c', decide_eq_true d']
              rfl
            rw [this]; rfl
      · have c' : w.2.2.2 ≤ ra := by
          by_cases e : ra < w.2.2.2
          · exact absurd ((nI_ltI hra (by omega)).mpr e) c
          · omega
        refine bX11_wipeMet_45 ⟨_, rfl, rfl, ?_⟩
        have : (WS.take (k + 1)).any (cm_2 CS sp ra) = false := by
          rw [List.any_eq_false]
          intro y hy
          have : y.2.2.2 ≤ w.2.2.2 := by
            rw [htk] at hy
            have hp := hW.sublist (List.take_sublist (k + 1) WS)
            rw [htk, List.pairwise_append] at hp
            rcases List.mem_append.mp hy with e | e
            · exact hp.2.2 y e w List.mem_cons_self
            · rw [List.mem_singleton.mp e]; exact Nat.le_refl _
          unfold cm_2
          rw [decide_eq_false (show ¬ ra < y.2.2.2 by omega)]
          simp
        rw [hr, this]; rfl
  refine key WS.length _ (by rw [Int32.sub_eq_add_neg]) (Nat.le_refl _) (by rw [List.take_length])
end CMT
/-- the class's meetings are the reference's -/
theorem cm_met {KS : List k_K2} {L : List k_E4} {WS : List k_SP} {E : e_S} {x ra ser : Nat} {CX : List k_CX} {sp : k_SP} {r : Nat × Nat × Nat} (rE : c_rE KS L WS E x) (hK : ∀ y ∈ KS, y.1 < 1331000000000) (hin : r_in KS L) (hW : ∀ w ∈ WS, w.2.2.1 ≤ 1331000000000) (rr : c_rr CX sp r) :
    (L.any (cm_1 (CX.map (fun y => y.1)) sp ra) || WS.any (cm_2 (CX.map (fun y => y.1)) sp ra)) = s_met (c_mc CX) ra E.2.1 E.2.2 r := by
  obtain ⟨q1, q2, q3, q4⟩ := rr
  obtain ⟨⟨a1, a2, a3⟩, ⟨b1, b2⟩, b3, b4, b5⟩ := rE
  unfold s_met
  congr 1
  · unfold s_met1
    rw [Bool.eq_iff_iff, List.any_eq_true, List.any_eq_true]
    have e1 : ∀ y : k_E4, y.2.1 < 1331000000000 → cm_1 (CX.map (fun y => y.1)) sp ra y = (decide (ra < y.2.2.1) && decide (r.1 ≤ y.2.1) && decide (y.2.1 < r.2.1) && !s_ownS (c_mc CX) r.2.2 y.2.1 (y.2.1 + 1)) := fun y hy => by
      unfold cm_1
      rw [own_mc q3, q1, decide_eq_decide.mpr (show y.2.1 < sp.2.2.1 ↔ y.2.1 < r.2.1 by omega)]
    have lt : ∀ y ∈ L, y.2.1 < 1331000000000 := fun y hy => by obtain ⟨k, hk⟩ := hin y hy; exact hK _ hk
    constructor
    · rintro ⟨y, hy, hc⟩
      obtain ⟨w, hw, h1, h2⟩ := (a2 y.2.1 y.2.2.1).mp ⟨y, hy, rfl, rfl⟩
      rw [e1 y (lt y hy)] at hc
      refine ⟨w, hw, ?_⟩
      rw [h1, h2]; exact hc
    · rintro ⟨w, hw, hc⟩
      obtain ⟨y, hy, h1, h2⟩ := (a2 w.2.1 w.2.2.1).mpr ⟨w, hw, rfl, rfl⟩
      refine ⟨y, hy, ?_⟩
      rw [e1 y (lt y hy), h1, h2]; exact hc
  · unfold s_met2
    rw [← b3, List.any_map]
    rw [Bool.eq_iff_iff, List.any_eq_true, List.any_eq_true]
    have e2 : ∀ w ∈ WS, cm_2 (CX.map (fun y => y.1)) sp ra w = (decide (ra < w.2.2.2) && decide (max r.1 w.2.1 < min r.2.1 w.2.2.1) && !s_ownS (c_mc CX) r.2.2 (max r.1 w.2.1) (min r.2.1 w.2.2.1)) := fun w hw => by
      have := hW w hw
      unfold cm_2
      rw [own_mc q3, q1, show min sp.2.2.1 w.2.2.1 = min r.2.1 w.2.2.1 by omega]
    constructor
    · rintro ⟨w, hw, hc⟩
      rw [e2 w hw] at hc
      exact ⟨w, hw, hc⟩
    · rintro ⟨w, hw, hc⟩
      exact ⟨w, hw, by rw [e2 w hw]; exact hc⟩
end
section
/-! WHAT A COMMIT ANSWERS THAT CHANGES NOTHING MORE, in the class -/
/-- cleared ranges by their versions -/
def g_ws (M : s_M) : Prop := (g_E M).2.2.Pairwise (fun x y => x.2.2 ≤ y.2.2)
def f_td (M : s_M) (t : Nat) : s_M × Int32 :=
  if (g_X M t).1.2.1 = true ∧ 0 < (g_X M t).1.2.2.2.2 then (M, nI (g_X M t).1.2.2.2.2)
  else if (g_X M t).2.1.length = 0 then (M, nI (g_X M t).1.2.2.1)
  else if 30 < g_n M - (g_X M t).1.2.2.1 ∨ ¬ (g_X M t).1.2.2.2.1 = g_gen M then (M, -2)
  else match (g_X M t).2.2.findIdx? (s_met (g_X M t).2.1 (g_X M t).1.2.2.1 (g_E M).2.1 (g_E M).2.2) with
    | some k => (g_sw M (nI k), -1)
    | none => (M, -2147483648)
section CTD
variable {G : k_G} {l : Launch}
theorem c_firstMet (ok : k_ok G l) {a t w S : Nat} {h : k_H} {M : s_M} {Q : List k_K2} {PS : List k_PT} (s : c_sE a h (g_E M) (g_n M) Q S) (r : c_rs a h M Q w PS) (ht : t < 4) (hb : (g_X M t).1.1 = true) (hra : (g_X M t).1.2.2.1 < 2 ^ 31) (hlim : e_lim (g_E M)) (hws : g_ws M) :
    k_cti (tX11_firstMet G l) [vR (some a), vR (some (a + c_T t))] h (fun h' v => h' = h ∧ v = s_told ((g_X M t).2.2.findIdx? (s_met (g_X M t).2.1 (g_X M t).1.2.2.1 (g_E M).2.1 (g_E M).2.2))) := by
  obtain ⟨KS, L, WS, z, st, rE, q, e⟩ := s
  obtain ⟨b1, b2, b3, b4⟩ := sE_lim st rE q.2 hlim (e_le_refl _)
  obtain ⟨r1, r2, r3, r4, r5, r6, r7⟩ := r
  obtain ⟨CXf, x1, -⟩ := r1
  obtain ⟨RS, cap, capR, kept, o1, ⟨c1, c2, c3⟩, c4⟩ := x1 t ht
  obtain ⟨⟨d0, d1⟩, ⟨d2, d3⟩, ⟨d4, d5, d6⟩, d7⟩ := c4 hb
  obtain ⟨cK, cW, cH, xs, ka, -, ⟨t1, t2, t3, t4⟩, ⟨g1, g2, g3⟩, tW, tn, ta, tw⟩ := id st
  have hW : WS.Pairwise (fun x y => x.2.2.2 ≤ y.2.2.2) := by
    have := hws
    unfold g_ws at this
    rw [← rE.2.2.1, List.pairwise_map] at this
    exact this
  have met : ∀ (i : Nat) (sp : k_SP) (rd : Nat × Nat × Nat), RS[i]? = some sp → (g_X M t).2.2[i]? = some rd → (L.any (cm_1 ((CXf t).map (fun y => y.1)) sp (g_X M t).1.2.2.1) || WS.any (cm_2 ((CXf t).map (fun y => y.1)) sp (g_X M t).1.2.2.1)) = s_met (g_X M t).2.1 (g_X M t).1.2.2.1 (g_E M).2.1 (g_E M).2.2 rd := fun i sp rd h1 h2 => by
    rw [d0]
    exact cm_met (ser := 0) rE (fun y hy => (t1.1 y hy).1) t2 (fun w hw => (tW w hw).2.2.1) (d5 i sp rd h1 h2)
  have hlen : RS.length < 16384 := c2.2.2
  refine k_cti_of (eX11_firstMet ok.2 (bX11_firstMet_0 ?_))
  have key : ∀ (d i : Nat), RS.length - i = d → i ≤ RS.length → (∀ (j : Nat) (rd : Nat × Nat × Nat), j < i → (g_X M t).2.2[j]? = some rd → s_met (g_X M t).2.1 (g_X M t).1.2.2.1 (g_E M).2.1 (g_E M).2.2 rd = false) →
      k_X (jX11_firstMet G l h) h 2 [(0, vR (some a)), (1, vR (some (a + c_T t))), (2, vI (nI i))] [] (q_i (fun h' v => h' = h ∧ v = s_told ((g_X M t).2.2.findIdx? (s_met (g_X M t).2.1 (g_X M t).1.2.2.1 (g_E M).2.1 (g_E M).2.2)))) := by
    intro d
    induction d with
    | zero =>
      intro i hd hi hf
      refine bX11_firstMet_2 o1 rfl (Or.inr ⟨rfl, _, _, c2.1⟩) (c_size ok c2.1) ?_
      rintro _ _ ⟨hh, rfl⟩
      rw [hh, List.length_map]
      refine bX11_firstMet_10 (fun _ => bX11_firstMet_51 ⟨_, rfl, rfl, ?_⟩) (fun c => absurd (nI_le (by omega) (by omega)) c)
      have : (g_X M t).2.2.findIdx? (s_met (g_X M t).2.1 (g_X M t).1.2.2.1 (g_E M).2.1 (g_E M).2.2) = none := by
        rw [List.findIdx?_eq_none_iff]
        intro y hy
        obtain ⟨j, hj⟩ := List.getElem?_of_mem hy
        exact hf j y (by have := (List.getElem?_eq_some_iff.mp hj).1; omega) hj
      rw [this]; rfl
    | succ d ih =>
      intro i hd hi hf
      have hlt : i < RS.length := by omega
      obtain ⟨sp, hsp⟩ : ∃ sp, RS[i]? = some sp := ⟨_, List.getElem?_eq_getElem hlt⟩
      obtain ⟨rd, hrd⟩ : ∃ rd, (g_X M t).2.2[i]? = some rd := ⟨_, List.getElem?_eq_getElem (by omega)⟩
      have hsp2 : (RS.map (fun x => x.1))[i]? = some sp.1 := by rw [List.getElem?_map, hsp]; rfl
      obtain ⟨u1, u2⟩ := c2.2.1 sp (List.mem_of_getElem? hsp)
      have hm := met i sp rd hsp hrd
      refine bX11_firstMet_2 o1 rfl (Or.inr ⟨rfl, _, _, c2.1⟩) (c_size ok c2.1) ?_
      rintro _ _ ⟨hh, rfl⟩
      rw [hh, List.length_map]
      refine bX11_firstMet_10 (fun c => absurd c (nI_ge hlt (by omega))) (fun _ => ?_)
      refine bX11_firstMet_13 o1 rfl (Or.inr ⟨rfl, _, _, c2.1⟩) (c_get ok c2.1 hsp2) ?_
      rintro _ _ ⟨hh, rfl⟩
      rw [hh]
      have found : s_met (g_X M t).2.1 (g_X M t).1.2.2.1 (g_E M).2.1 (g_E M).2.2 rd = true → k_X (jX11_firstMet G l h) h 43 [(2, vI (nI i))] [] (q_i (fun h' v => h' = h ∧ v = s_told ((g_X M t).2.2.findIdx? (s_met (g_X M t).2.1 (g_X M t).1.2.2.1 (g_E M).2.1 (g_E M).2.2)))) := fun hc => by
        refine bX11_firstMet_43 ⟨_, rfl, rfl, ?_⟩
        have : (g_X M t).2.2.findIdx? (s_met (g_X M t).2.1 (g_X M t).1.2.2.1 (g_E M).2.1 (g_E M).2.2) = some i := by
          rw [List.findIdx?_eq_some_iff_getElem]
          have hi2 := (List.getElem?_eq_some_iff.mp hrd)
          refine ⟨hi2.1, by rw [hi2.2]; exact hc, fun j hj => ?_⟩
          have := hf j _ hj (List.getElem?_eq_getElem (by omega))
          rw [this]; decide
        rw [this]; rfl
      refine bX11_firstMet_21 u1 (k_is_o r3) (c_keyMet ok st r3 o1 c1 u1 u2 hra) ?_
      rintro _ _ ⟨hh, rfl⟩
      rw [hh]
      refine bX11_firstMet_31 (fun c => found ?_) (fun c => ?_)
      · rw [kB_n0] at c
        rw [← hm, c]; rfl
      rw [kB_0] at c
      refine bX11_firstMet_34 (k_is_o r3) (c_wipeMet ok st r3 o1 c1 u1 u2 hra hW (by omega)) ?_
      rintro _ _ ⟨hh, rfl⟩
      rw [hh]
      refine bX11_firstMet_40 (fun c2 => ?_) (fun c2 => found ?_)
      · rw [kB_0] at c2
        refine bX11_firstMet_45 ?_
        rw [nI_1]
        refine ih (i + 1) (by omega) (by omega) (fun j rd2 hj h2 => ?_)
        by_cases e : j = i
        · subst e
          rw [hrd] at h2
          cases h2
          rw [← hm, c, c2]; rfl
        · exact hf j rd2 (by omega) h2
      · rw [kB_n0] at c2
        rw [← hm, c2, Bool.or_true]
  exact key RS.length 0 (by omega) (Nat.zero_le _) (fun j rd hj _ => absurd hj (by omega))
theorem c_dn_none {d : Nat} (h : d < 2 ^ 31) : c_dn d = -2147483648 ↔ d = 0 := by
  unfold c_dn
  by_cases e : d = 0
  · rw [if_pos e]; exact ⟨fun _ => e, fun _ => rfl⟩
  · rw [if_neg e]; exact ⟨fun z => absurd z (wk_ne h), fun z => absurd z e⟩
theorem C_told (ok : k_ok G l) {a t N w : Nat} {B : Nat × Nat} {h : k_H} {M : s_M} (W : c_W a B h M N w) (ht : t < 4) (hb : (g_X M t).1.1 = true) (hra : (g_X M t).1.2.2.1 ≤ g_n M) (hgen : g_gen M < 2 ^ 31 ∧ (g_X M t).1.2.2.2.1 < 2 ^ 31 ∧ (g_X M t).1.2.2.2.2 < 2 ^ 31) (hl9 : (g_X M t).2.1.length < 2 ^ 20) (hlim : e_lim (g_E M)) (hws : g_ws M) :
    k_cti (tX11_toldUndone G l) [vR (some a), vR (some (a + c_T t))] h (fun h' v => c_W a B h' (f_td M t).1 N w ∧ v = (f_td M t).2) := by
  obtain ⟨Q, S, PS, s, r, p, co⟩ := id W
  obtain ⟨r1, r2, r3, r4, r5, r6, r7⟩ := id r
  obtain ⟨n9, -⟩ := sE_n s
  obtain ⟨f0, f1, f2, f3, f4, f5, o11⟩ := sE_obj s
  obtain ⟨kept, o, hk⟩ := tx_obj r1 ht
  have hk := hk hb
  subst hk
  have rest : ¬ ((g_X M t).1.2.1 = true ∧ 0 < (g_X M t).1.2.2.2.2) → k_X (jX11_toldUndone G l h) h 21 [(0, vR (some a)), (1, vR (some (a + c_T t)))] [] (q_i (fun h' v => c_W a B h' (f_td M t).1 N w ∧ v = (f_td M t).2)) := fun c0 => by
    refine bX11_toldUndone_21 o rfl (fun c1 => ?_) (fun c1 => ?_)
    · have c1' : ¬ (g_X M t).2.1.length = 0 := fun z => c1 (by rw [z]; rfl)
      have late : (30 < g_n M - (g_X M t).1.2.2.1 ∨ ¬ (g_X M t).1.2.2.2.1 = g_gen M) → k_X (jX11_toldUndone G l h) h 61 [] [] (q_i (fun h' v => c_W a B h' (f_td M t).1 N w ∧ v = (f_td M t).2)) := fun c2 => by
        have e : f_td M t = (M, -2) := by unfold f_td; rw [if_neg c0, if_neg c1', if_pos c2]
        rw [e]
        exact bX11_toldUndone_61 ⟨_, rfl, W, rfl⟩
      have e30 : (30 : Int32) < nI (g_n M) - nI (g_X M t).1.2.2.1 ↔ 30 < g_n M - (g_X M t).1.2.2.1 := by
        rw [nI_sub hra]
        exact nI_ltI (a := 30) (by decide) (by omega)
      refine bX11_toldUndone_33 r3 rfl o11 rfl o rfl (fun c2 => late (Or.inl (e30.mp c2))) (fun c2 => ?_)
      refine bX11_toldUndone_50 o rfl r3 rfl (fun c3 => ?_) (fun c3 => late (Or.inr (fun z => c3 (by rw [z]))))
      have c3' := (nI_eq hgen.2.1 hgen.1).mp c3
      have c4 : ¬ (30 < g_n M - (g_X M t).1.2.2.1 ∨ ¬ (g_X M t).1.2.2.2.1 = g_gen M) := fun z => by
        rcases z with z | z
        · exact c2 (e30.mpr z)
        · exact z c3'
      refine bX11_toldUndone_64 (k_is_o r3) (c_firstMet ok s r ht hb (by omega) hlim hws) ?_
      rintro _ _ ⟨hh, rfl⟩
      rw [hh]
      have e : f_td M t = match (g_X M t).2.2.findIdx? (s_met (g_X M t).2.1 (g_X M t).1.2.2.1 (g_E M).2.1 (g_E M).2.2) with
        | some k => (g_sw M (nI k), -1)
        | none => (M, -2147483648) := by unfold f_td; rw [if_neg c0, if_neg c1', if_neg c4]
      rw [e]
      cases hf : (g_X M t).2.2.findIdx? (s_met (g_X M t).2.1 (g_X M t).1.2.2.1 (g_E M).2.1 (g_E M).2.2) with
      | none =>
        exact bX11_toldUndone_69 (fun z => absurd rfl z) (fun _ => bX11_toldUndone_76 ⟨_, rfl, W, rfl⟩)
      | some k =>
        have hkl : k < 2 ^ 31 := by
          rw [List.findIdx?_eq_some_iff_getElem] at hf
          obtain ⟨hk, -⟩ := hf
          obtain ⟨CXf, x1, -⟩ := r1
          obtain ⟨RS, cap, capR, kept, o1, ⟨c1, c2, c3⟩, c4⟩ := x1 t ht
          have := (c4 hb).2.2.1.1
          have := c2.2.2
          omega
        refine bX11_toldUndone_69 (fun _ => ?_) (fun z => absurd z (wk_ne hkl))
        refine bX11_toldUndone_79 r3 rfl ?_
        generalize hh : k_up h a _ = h'
        have ho : c_ob a h' (g_sw M (nI k)) := by rw [← hh]; exact k_up_self _ _ _
        exact bX11_toldUndone_84 ⟨_, rfl, W_own W hh.symm ho ⟨rfl, rfl, rfl, rfl, rfl⟩ ⟨rfl, rfl, rfl⟩, rfl⟩
    · have c1' : (g_X M t).2.1.length = 0 := (nI_eq (b := 0) (by omega) (by decide)).mp c1
      have e : f_td M t = (M, nI (g_X M t).1.2.2.1) := by unfold f_td; rw [if_neg c0, if_pos c1']
      rw [e]
      exact bX11_toldUndone_28 o rfl ⟨_, rfl, W, rfl⟩
  refine k_cti_of (eX11_toldUndone ok.2 (bX11_toldUndone_0 o rfl (fun c => rest ?_) (fun c => ?_)))
  · rw [kB_0] at c
    intro z
    rw [c] at z
    cases z.1
  · rw [kB_n0] at c
    refine bX11_toldUndone_7 o rfl (fun c2 => rest ?_) (fun c2 => ?_)
    · have := (c_dn_none hgen.2.2).mp c2
      intro z
      omega
    · have h0 : ¬ (g_X M t).1.2.2.2.2 = 0 := fun z => c2 ((c_dn_none hgen.2.2).mpr z)
      have e : f_td M t = (M, nI (g_X M t).1.2.2.2.2) := by unfold f_td; rw [if_pos ⟨c, by omega⟩]
      rw [e]
      have e2 : c_dn (g_X M t).1.2.2.2.2 = nI (g_X M t).1.2.2.2.2 := by unfold c_dn; rw [if_neg h0]
      refine bX11_toldUndone_16 o rfl ⟨_, rfl, W, e2⟩
end CTD
end
section
/-! THE CLASS CLOSES ITS COMMITS -/
def g_p0 (M : s_M) : Prop := ∀ p ∈ (g_PT M).head?, p.1 = 0
/-- how many parts a commit makes -/
def g_sp (M : s_M) (E : e_S) : Nat := (p_split (m_V E.1 (g_n M + 1) E.2.1) ((g_PT M).length + (m_V E.1 (g_n M + 1) E.2.1).length) [] (g_PT M)).length - (g_PT M).length
def c_r6 (a : Nat) (h : k_H) (M : s_M) (w : Nat) (PS : List k_PT) : Prop := c_TX a h (g_X M) (g_ser M) w ∧ c_pa a h PS ∧ c_ob a h M ∧ c_cl a h ∧ c_mk a h (g_MK M) ∧ c_dr a h (g_DS M).1
theorem r6_wat {a b w n S : Nat} {h h' : k_H} {M : s_M} {E : e_S} {Q : List k_K2} {PS : List k_PT} {fs fs' : List k_V} (s : c_sE a h E n Q S) (r : c_r6 a h M w PS) (hb : h.1 b = some (k_o 13 fs)) (hh : h' = k_up h b (k_o 13 fs')) : c_sE a h' E n Q S ∧ c_r6 a h' M w PS ∧ k_mo a [13] (fun _ => False) 0 h h' := by
  obtain ⟨r1, r2, r3, r4, r5, r6⟩ := r
  have m : k_mo a [13] (fun _ => False) 0 h h' := by rw [hh]; exact mv_o hb (Or.inl (by simp))
  exact ⟨sE_fr s m (by decide) (fun _ _ _ z => z) (fun _ _ _ _ _ z => z), ⟨TX_fr r1 m (by decide) (fun _ _ _ _ _ z => z) (fun _ _ _ z => z), pa_fr r2 m (by decide) ⟨id, id⟩ (fun _ _ _ z => z), ob_fr r3 m.1 (by decide) id, cl_fr r4 m.1 (by decide) ⟨id, id, id⟩, mk_fr r5 m.1 id, dr_fr r6 m.1 (by decide) id (fun _ _ _ z => z)⟩, m⟩
/-- the parts move -/
theorem rs_par {a o w n S : Nat} {h h' : k_H} {M : s_M} {E : e_S} {Q : List k_K2} {PS PS' : List k_PT} (s : c_sE a h E n Q S) (r : c_rs a h M Q w PS) (m : k_mo a [8] (fun q => q = a + 7) o h h') (p : c_pa a h' PS') : c_sE a h' E n Q S ∧ c_rs a h' M Q w PS' := by
  obtain ⟨r1, r2, r3, r4, r5, r6, r7⟩ := r
  obtain ⟨-, ⟨cap, p1, -⟩, -⟩ := id r2
  have nO : ∀ q ci fs, h.1 q = some (k_o ci fs) → ¬ (q = a + 7) := fun q ci fs hq z => by rw [z, p1] at hq; cases hq
  exact ⟨sE_fr s m (by decide) (fun i h1 h2 z => by omega) (fun q ci fs hq _ => nO q ci fs hq), TX_fr r1 m (by decide) (fun q ci fs hq _ => nO q ci fs hq) (fun i h1 h2 z => by omega), p, ob_fr r3 m.1 (by decide) (by omega), cl_fr r4 m.1 (by decide) ⟨by omega, by omega, by omega⟩, mk_fr r5 m.1 (by omega), dr_fr r6 m.1 (by decide) (by omega) (fun q fs hq => nO q 5 fs hq), wa_fr r7 m.1 (by decide) (by omega) (fun q fs hq => nO q 13 fs hq)⟩
theorem sE_V {a n S : Nat} {h : k_H} {E : e_S} {Q : List k_K2} (s : c_sE a h E n Q S) : (c_hl 0 1331000000000 n E.1 E.2.1).map (fun x => x.1) = m_V E.1 n E.2.1 ∧ (m_V E.1 n E.2.1).Pairwise (fun x y => x < y) := by
  obtain ⟨-, E9, Es, -⟩ := sE_n s
  refine ⟨?_, List.pairwise_map.mpr (Es.sublist List.filter_sublist)⟩
  unfold m_V c_hl r_flt
  congr 1
  refine List.filter_congr fun y hy => ?_
  rw [decide_eq_true (Nat.zero_le _), decide_eq_true (E9 y hy)]
  rfl
/-- a key of the store stays one -/
def c_pin (a : Nat) (h : k_H) (c q : Nat) : Prop := ∃ (xs : List Nat) (cap : Nat), h.1 (a + 2) = some (k_l xs cap) ∧ q ∈ xs ∧ ∃ f, h.1 q = some (k_o 7 [vJ (lN c), f])
theorem pin_fr {a o c q : Nat} {K : List Nat} {A : Nat → Prop} {h h' : k_H} (p : c_pin a h c q) (m : k_mo a K A o h h') (hK : 7 ∉ K) (hA : ¬ A (a + 2)) (hO : ∀ q fs, h.1 q = some (k_o 7 fs) → ¬ A q) : c_pin a h' c q := by
  obtain ⟨xs, cap, p1, p2, f, p3⟩ := p
  exact ⟨xs, cap, m.1 _ _ p1 hA (fun ci fs e => by cases e), p2, f, m.1 _ _ p3 (hO _ _ p3) (fun ci fs e => by cases e; exact hK)⟩
theorem pin_st {a n c q : Nat} {h : k_H} {KS : List k_K2} {L : List k_E4} {WS : List k_SP} {z : Option Int32 × Bool} (st : c_st a h KS L WS n z) (hc : c < 2 ^ 62) : c_pin a h c q ↔ (c, q) ∈ KS := by
  obtain ⟨cK, cW, cH, xs, ka, ⟨s1, s2, s3, s4, s5⟩, ⟨t1, t2, t3, t4⟩, -⟩ := st
  constructor
  · rintro ⟨ys, cap, p1, p2, f, p3⟩
    rw [s2] at p1
    cases p1
    obtain ⟨y, hy, rfl⟩ := List.mem_map.mp p2
    have h1 := t1.1 y hy
    rw [h1.2] at p3
    have e : lN y.1 = lN c := by
      have := Option.some.inj p3
      injection this with h2
      have h3 := (Prod.mk.inj h2).2
      injection h3 with h4
      injection h4 with h5
      injection h5
    have := (lX_eq (by omega) hc).mp e
    rw [← this]
    exact hy
  · intro hm
    exact ⟨_, cK, s2, List.mem_map.mpr ⟨_, hm, rfl⟩, _, (t1.1 _ hm).2⟩
section CLF
variable {G : k_G} {l : Launch}
theorem c_E_listHeldP (ok : k_ok G l) {a : Nat} {h : k_H} {E : e_S} {n lo hi S : Nat} {Q : List k_K2} (hs : c_sE a h E n Q S) (hlo : lo < 2 ^ 62) (hhi : hi < 2 ^ 62) (hlim : e_lim E) : k_ctr (tX8_listHeld G l) [vR (some (a + 1)), vJ (lN lo), vJ (lN hi)] h (fun h' v => v = some (a + 4) ∧ c_sE a h' E n Q S ∧ (∃ (X : List k_K2) (cap : Nat), h'.1 (a + 4) = some (k_l (X.map (fun x => x.2)) cap) ∧ X.map (fun x => x.1) = (c_hl lo hi n E.1 E.2.1).map (fun x => x.1) ∧ ∀ y ∈ X, y.1 < 1331000000000 ∧ c_pin a h' y.1 y.2 ∧ ∃ f, h'.1 y.2 = some (k_o 7 [vJ (lN y.1), f])) ∧ k_mo a [] (fun q => q = a + 4) 0 h h') := by
  obtain ⟨KS, L, WS, z, st, r, q, e⟩ := hs
  obtain ⟨b1, b2, b3, b4⟩ := sE_lim st r q.2 hlim (e_le_refl E)
  obtain ⟨h', v, t, rfl, st', ⟨cap, e4⟩, mv⟩ := c_S_listHeld ok st hlo hhi (by omega)
  refine ⟨h', _, t, rfl, ⟨KS, L, WS, z, st', r, q, e⟩, ⟨c_hl lo hi n KS L, cap, e4, rE_hl r b4 lo hi n, fun y hy => ?_⟩, mv⟩
  have hm := (r_flt_of hy).1
  obtain ⟨cK, cW, cH, xs, ka, -, ⟨t1, t2, t3, t4⟩, -⟩ := id st'
  have h1 := t1.1 _ hm
  exact ⟨h1.1, (pin_st st' (by omega)).mpr hm, _, h1.2⟩
theorem c_E_valueNowP (ok : k_ok G l) {a : Nat} {h : k_H} {E : e_S} {n c S : Nat} {Q : List k_K2} (hs : c_sE a h E n Q S) (hc : c < 2 ^ 62) : k_cti (tX8_valueNow G l) [vR (some (a + 1)), vJ (lN c)] h (fun h' v => c_sE a h' E n Q S ∧ v = o_told (r_val c n E.2.1) ∧ k_mo a [] (fun q => q = a + 5) 0 h h') := by
  obtain ⟨KS, L, WS, z, st, r, q, e⟩ := hs
  obtain ⟨cK, cW, cH, xs, ka, ⟨s1, s2, s3, s4, s5⟩, ⟨t1, t2, t3, t4⟩, ⟨l1, l2, l3⟩, tW, tn, ta, tw⟩ := id st
  obtain ⟨h', v, t, e1, rfl⟩ := c_X8_valueNow ok s1 s5 s2 t1 t2 t3 (fun x hx => by have := l1 x hx; omega) hc (by omega)
  obtain ⟨st', mv⟩ := st_setcell_h st (r_val c n L, false) e1
  exact ⟨h', _, t, ⟨KS, L, WS, _, st', r, q, e⟩, by rw [r.1.1], mv⟩
theorem c_E_alterP (ok : k_ok G l) {a : Nat} {h : k_H} {E : e_S} {n c S : Nat} {Q : List k_K2} {kd g : Int32} (hs : c_sE a h E n Q S) (hc : c < 1331000000000) (hlim : e_lim (e_put n c (s_apO kd g (nI n) (r_val c n E.2.1)) E)) :
    k_ctv (tX8_alter G l) [vR (some (a + 1)), vI kd, vJ (lN c), vI g] h (fun h' => ∃ S', c_sE a h' (e_put n c (s_apO kd g (nI n) (r_val c n E.2.1)) E) n Q S' ∧ S ≤ S' ∧ k_mo a [6, 7, 11] (c_A5 a) (S' - S) h h' ∧ ∀ c0 q0, c0 < 2 ^ 62 → c_pin a h c0 q0 → c_pin a h' c0 q0) := by
  obtain ⟨KS, L, WS, z, st, r, q, e⟩ := hs
  obtain ⟨b1, b2, b3, b4⟩ := sE_lim st r q.2 hlim (e_le_put _ _ _ _)
  obtain ⟨h', t, k, L', z', st', w, mv⟩ := c_S_alter ok (kd := kd) (g := g) st hc (by omega) (by omega)
  have hl := c_ins_le c k KS
  rw [r.1.1] at w
  have hw := w.2.2.1
  exact ⟨h', t, _, ⟨_, L', WS, z', st', rE_put r b4 w, ⟨fun y hy => c_ins_mem (q.1 y hy), q.2⟩, rfl⟩, by omega, mv_mono mv (fun _ h => h) (fun p h => by rcases h with h | h; exact Or.inl h; exact Or.inr (Or.inr (Or.inr h))) (by omega), fun c0 q0 h0 hp => (pin_st st' h0).mpr (c_ins_mem ((pin_st st h0).mp hp))⟩
end CLF
section CCL
variable {G : k_G} {l : Launch}
theorem C_closeP (ok : k_ok G l) {a w S N : Nat} {B : Nat × Nat} {h : k_H} {M : s_M} {E : e_S} {Q : List k_K2} {PS : List k_PT} (s : c_sE a h E (g_n M + 1) Q S) (r : c_rs a h M Q w PS) (p : PS.map k_pr = g_PT M) (co : c_co a B h (S + N)) (hext : ∀ c, r_val c (g_n M) E.2.1 = r_val c (g_n M) (g_E M).2.1) (hlim : e_lim E) (hpk : g_pk M) (h0 : g_p0 M) (hps : g_ps M E) :
    k_ctv (tX11_closeCommit G l) [vR (some a)] h (fun h' => c_W a B h' (g_cm M E) (N + g_sp M E) w ∧ k_mo a [8, 13] (fun q => q = a + 4 ∨ q = a + 7) (g_sp M E) h h') := by
  obtain ⟨r1, r2, r3, r4, r5, r6, WA, capW, w1, ⟨w2, w3, w4⟩, w5⟩ := id r
  obtain ⟨hn9, -⟩ := sE_n s
  have hQ : Q.length ≤ 20 := by obtain ⟨KS, L, WS, z, st, rE, q, e⟩ := s; exact q.2
  refine k_ctv_of (eX11_closeCommit ok.2 (bX11_closeCommit_0 ?_))
  -- behind the watches
  have tail : ∀ hh : k_H, k_mo a [8, 13] (fun q => q = a + 4 ∨ q = a + 7) 0 h hh → c_sE a hh E (g_n M + 1) Q S → c_r6 a hh M w PS → c_co a B hh (S + N) → c_wa a hh ((g_WT M).map (m_fire (g_n M) (g_n M + 1) (g_E M).2.1 E.2.1)) Q → k_X (jX11_closeCommit G l h) hh 75 [(0, vR (some a))] [] (q_v (fun h' => c_W a B h' (g_cm M E) (N + g_sp M E) w ∧ k_mo a [8, 13] (fun q => q = a + 4 ∨ q = a + 7) (g_sp M E) h h')) := by
    intro hh pn s1 q6 co1 qw
    have q1 : c_rs a hh (g_cm M E) Q w PS := ⟨q6.1, q6.2.1, q6.2.2.1, q6.2.2.2.1, q6.2.2.2.2.1, q6.2.2.2.2.2, qw⟩
    obtain ⟨f0, f1, f2, f3, f4, f5, o11⟩ := sE_obj s1
    have hl := c_E_listHeldP ok (lo := 0) (hi := 1331000000000) s1 (by omega) (by omega) hlim
    refine bX11_closeCommit_75 q1.2.2.1 rfl rfl (k_is_o o11) hl ?_
    rintro h2 _ ⟨rfl, s2, ⟨X, cap, e4, eX, hX⟩, m2⟩
    have q2 := rs_sto q1 s1 (mv_mono m2 (fun _ h => by cases h) (fun p h => Or.inr (Or.inr (Or.inl h))) (Nat.le_refl _))
    have co2 : c_co a B h2 (S + N) := co_le (co_mo co1 m2) (Nat.le_refl _)
    obtain ⟨eV, sV⟩ := sE_V s2
    rw [eV] at eX
    have hlenX : X.length = (m_V E.1 (g_n M + 1) E.2.1).length := by rw [← eX, List.length_map]
    have hlen9 : X.length ≤ 12000 := by
      rw [hlenX]
      unfold m_V
      rw [List.length_map]
      exact Nat.le_trans (List.length_filter_le _ _) hlim.1
    have hPl : PS.length = (g_PT M).length := by rw [← p, List.length_map]
    have hne : PS ≠ [] := fun z => hpk.2 (by rw [← p, z]; rfl)
    obtain ⟨o9, -⟩ := id q2.2.1
    refine bX11_closeCommit_90 (k_is_o o9) (c_X6_split ok (X := X) q2.2.1 ⟨⟨cap, e4⟩, fun y hy => ⟨(hX y hy).1, (hX y hy).2.2⟩⟩ (by rw [eX]; exact sV) (by omega) (by rw [p]; exact hpk.1) hne (fun x hx => ?_) (by rw [hPl, hlenX]; exact hps)) ?_
    · have := h0 (k_pr x) (by rw [← p, List.head?_map]; rw [Option.mem_def] at hx; rw [hx]; rfl)
      exact this
    rintro h3 ⟨PS2, p2, e2, sp2, ho2, hle2, m3⟩
    obtain ⟨s3, q3⟩ := rs_par s2 q2 m3 p2
    have co3 := co_mo co2 m3
    obtain ⟨x, rest, ex⟩ : ∃ x rest, PS2 = x :: rest := by
      cases PS2 with
      | nil => exact absurd (List.length_eq_zero_iff.mp (Nat.le_zero.mp hle2)) hne
      | cons x rest => exact ⟨x, rest, rfl⟩
    obtain ⟨o93, -⟩ := id q3.2.1
    rw [eX, hlenX, p] at e2
    rw [eX, hlenX] at ho2
    refine bX11_closeCommit_93 q3.2.2.1 rfl (k_is_o o93) (c_X6_join ok (V := m_V E.1 (g_n M + 1) E.2.1) ex p2 (by omega) sp2 ho2) ?_
    rintro h4 ⟨PS3, p3, e3, sp3, ho3, m4⟩
    obtain ⟨s4, q4⟩ := rs_par s3 q3 m4 p3
    have co4 := co_mo co3 m4
    have e5 : PS3.map k_pr = p_arr (m_V E.1 (g_n M + 1) E.2.1) (g_PT M) := by
      unfold p_arr
      rw [hPl] at e2
      rw [← e2, ex, List.map_cons]
      exact e3
    have e6 : PS2.length - PS.length = g_sp M E := by
      unfold g_sp
      rw [hPl] at e2
      rw [← e2, List.length_map, hPl]
    have mA := mv_mono (mv_trans pn (mv_mono m2 (fun _ h => by cases h) (fun p h => Or.inl h) (Nat.le_refl _))) (fun _ h => h) (fun _ h => h) (Nat.le_refl 0)
    have mB := mv_trans mA (mv_mono m3 (fun k h => by simp at h; simp [h]) (fun p h => Or.inr h) (Nat.le_refl _))
    have mC := mv_trans mB (mv_mono m4 (fun k h => by simp at h; simp [h]) (fun p h => Or.inr h) (Nat.le_refl _))
    exact bX11_closeCommit_100 ⟨rfl, ⟨Q, S, PS3, s4, q4, ⟨e5, ho3⟩, co_le co4 (by rw [e6]; omega)⟩, mv_mono mC (fun _ h => h) (fun _ h => h) (by rw [e6]; omega)⟩
  have key : ∀ (d i : Nat) (hh : k_H), k_mo a [8, 13] (fun q => q = a + 4 ∨ q = a + 7) 0 h hh → WA.length - i = d → i ≤ WA.length → c_sE a hh E (g_n M + 1) Q S → c_r6 a hh M w PS → c_co a B hh (S + N) → hh.1 (a + 14) = some (k_l WA capW) →
      (∀ (j b : Nat) (x : Nat × Int32) (q : k_K2), WA[j]? = some b → (g_WT M)[j]? = some x → Q[j]? = some q → q.1 = x.1 ∧ hh.1 b = some (k_o 13 [vR (some q.2), vI (if j < i then (m_fire (g_n M) (g_n M + 1) (g_E M).2.1 E.2.1 x).2 else x.2)])) →
      k_X (jX11_closeCommit G l h) hh 2 [(0, vR (some a)), (1, vI (nI i))] [] (q_v (fun h' => c_W a B h' (g_cm M E) (N + g_sp M E) w ∧ k_mo a [8, 13] (fun q => q = a + 4 ∨ q = a + 7) (g_sp M E) h h')) := by
    intro d
    induction d with
    | zero =>
      intro i hh pn hd hi s1 q6 co1 e14 pt
      refine bX11_closeCommit_2 q6.2.2.1 rfl (Or.inr ⟨rfl, _, _, e14⟩) (c_size ok e14) ?_
      rintro _ _ ⟨hh2, rfl⟩
      rw [hh2]
      refine bX11_closeCommit_10 (fun _ => tail hh pn s1 q6 co1 ⟨WA, capW, e14, ⟨by rw [List.length_map]; exact w2, by rw [List.length_map]; exact w3, w4⟩, fun j b x q h1 h2 h3 => ?_⟩) (fun c => absurd (nI_le (by omega) (by omega)) c)
      rw [List.getElem?_map] at h2
      cases hx : (g_WT M)[j]? with
      | none => rw [hx] at h2; cases h2
      | some y =>
        rw [hx] at h2
        have h2' : m_fire (g_n M) (g_n M + 1) (g_E M).2.1 E.2.1 y = x := by simpa using h2
        have hj := (List.getElem?_eq_some_iff.mp h1).1
        obtain ⟨u1, u2⟩ := pt j b y q h1 hx h3
        rw [if_pos (by omega), h2'] at u2
        exact ⟨by rw [← h2']; exact u1, u2⟩
    | succ d ih =>
      intro i hh pn hd hi s1 q6 co1 e14 pt
      have hlt : i < WA.length := by omega
      obtain ⟨b, hb⟩ : ∃ b, WA[i]? = some b := ⟨_, List.getElem?_eq_getElem hlt⟩
      obtain ⟨x, hx⟩ : ∃ x, (g_WT M)[i]? = some x := ⟨_, List.getElem?_eq_getElem (by omega)⟩
      obtain ⟨q, hq⟩ : ∃ q, Q[i]? = some q := ⟨_, List.getElem?_eq_getElem (by omega)⟩
      obtain ⟨u1, u2⟩ := pt i b x q hb hx hq
      rw [if_neg (Nat.lt_irrefl i)] at u2
      obtain ⟨KS, L, WS, z, st, rE, qq, ee⟩ := id s1
      obtain ⟨cK, cW, cH, xs, ka, ⟨o11, -⟩, ⟨t1, t2, t3, t4⟩, ⟨g1, g2, g3⟩, tW, tn, ta, tw⟩ := id st
      have hqK := qq.1 q (List.mem_of_getElem? hq)
      have hkey := (t1.1 q hqK).2
      refine bX11_closeCommit_2 q6.2.2.1 rfl (Or.inr ⟨rfl, _, _, e14⟩) (c_size ok e14) ?_
      rintro _ _ ⟨hh2, rfl⟩
      rw [hh2]
      refine bX11_closeCommit_10 (fun c => absurd c (nI_ge hlt (by omega))) (fun _ => ?_)
      refine bX11_closeCommit_13 q6.2.2.1 rfl (Or.inr ⟨rfl, _, _, e14⟩) (c_get ok e14 hb) ?_
      rintro _ _ ⟨hh2, rfl⟩
      rw [hh2]
      have same : (m_fire (g_n M) (g_n M + 1) (g_E M).2.1 E.2.1 x).2 = x.2 → k_X (jX11_closeCommit G l h) hh 69 [(0, vR (some a)), (1, vI (nI i))] [] (q_v (fun h' => c_W a B h' (g_cm M E) (N + g_sp M E) w ∧ k_mo a [8, 13] (fun q => q = a + 4 ∨ q = a + 7) (g_sp M E) h h')) := fun hs => by
        refine bX11_closeCommit_69 ?_
        rw [nI_1]
        refine ih (i + 1) hh pn (by omega) (by omega) s1 q6 co1 e14 (fun j b' x' q' h1 h2 h3 => ?_)
        obtain ⟨v1, v2⟩ := pt j b' x' q' h1 h2 h3
        refine ⟨v1, ?_⟩
        by_cases e : j = i
        · subst e
          rw [hx] at h2
          cases h2
          rw [if_pos (by omega), hs]
          rw [if_neg (Nat.lt_irrefl _)] at v2
          exact v2
        · by_cases e2 : j < i
          · rw [if_pos (by omega)]; rw [if_pos e2] at v2; exact v2
          · rw [if_neg (by omega)]; rw [if_neg e2] at v2; exact v2
      refine bX11_closeCommit_21 u2 rfl (fun c => same ?_) (fun c => ?_)
      · show (if x.2 = -2147483648 ∧ _ then _ else x.2) = x.2
        rw [if_neg (fun z => c z.1)]
      refine bX11_closeCommit_34 u2 rfl (fun e => by cases e) (fun a' e => ?_)
      refine bX11_closeCommit_41 u2 rfl q6.2.2.1 rfl o11 rfl (k_is_o hkey) (c_X4_turnedIn ok hkey t3 (fun x hx => by have := g1 x hx; omega) (by omega) (by omega)) ?_
      rintro _ _ ⟨hh2, rfl⟩
      rw [hh2]
      have hv : r_val q.1 (g_n M + 1) L = r_val x.1 (g_n M + 1) E.2.1 ∧ r_val q.1 (g_n M + 1 - 1) L = r_val x.1 (g_n M) (g_E M).2.1 := by
        rw [rE.1.1, rE.1.1, u1]
        exact ⟨rfl, hext x.1⟩
      refine bX11_closeCommit_55 (fun c2 => same ?_) (fun c2 => ?_)
      · rw [kB_0, hv.1, hv.2, Bool.not_eq_false', decide_eq_true_eq] at c2
        show (if x.2 = -2147483648 ∧ _ then _ else x.2) = x.2
        rw [if_neg (fun z => z.2 c2)]
      · rw [kB_n0, hv.1, hv.2, Bool.not_eq_true', decide_eq_false_iff_not] at c2
        have hfire : (m_fire (g_n M) (g_n M + 1) (g_E M).2.1 E.2.1 x).2 = nI (g_n M + 1) := by
          show (if x.2 = -2147483648 ∧ _ then _ else x.2) = _
          rw [if_pos ⟨c, c2⟩]
        refine bX11_closeCommit_58 q6.2.2.1 rfl o11 rfl u2 rfl ?_
        generalize hg : k_up hh b _ = h3
        have u3 : h3.1 b = some (k_o 13 [vR (some q.2), vI (nI (g_n M + 1))]) := by rw [← hg]; exact k_up_self _ _ _
        obtain ⟨s3, q3, m3⟩ := r6_wat s1 q6 u2 hg.symm
        have e143 : h3.1 (a + 14) = some (k_l WA capW) := m3.1 _ _ e14 id (fun ci fs e => by cases e)
        refine bX11_closeCommit_69 ?_
        rw [nI_1]
        refine ih (i + 1) h3 (mv_mono (mv_trans pn (mv_mono m3 (fun k h => by simp at h; simp [h]) (fun _ z => z.elim) (Nat.le_refl _))) (fun _ h => h) (fun _ h => h) (Nat.le_refl 0)) (by omega) (by omega) s3 q3 (co_le (co_mo co1 m3) (Nat.le_refl _)) e143 (fun j b' x' q' h1 h2 h3' => ?_)
        obtain ⟨v1, v2⟩ := pt j b' x' q' h1 h2 h3'
        refine ⟨v1, ?_⟩
        by_cases e : j = i
        · subst e
          rw [hx] at h2
          rw [hb] at h1
          rw [hq] at h3'
          cases h2
          cases h1
          cases h3'
          rw [if_pos (by omega), hfire]
          exact u3
        · have hne : b' ≠ b := fun z => by
            rw [z] at h1
            have hj := (List.getElem?_eq_some_iff.mp h1)
            have hi2 := (List.getElem?_eq_some_iff.mp hb)
            exact e ((List.getElem_inj w4).mp (hj.2.trans hi2.2.symm))
          have old : h3.1 b' = hh.1 b' := by rw [← hg]; exact k_up_ne _ _ hne
          rw [old]
          by_cases e2 : j < i
          · rw [if_pos (by omega)]; rw [if_pos e2] at v2; exact v2
          · rw [if_neg (by omega)]; rw [if_neg e2] at v2; exact v2
  exact key WA.length 0 h (mv_refl _ _ _ _) (by omega) (Nat.zero_le _) s ⟨r1, r2, r3, r4, r5, r6⟩ co w1 (fun j b x q h1 h2 h3 => by
    rw [if_neg (Nat.not_lt_zero j)]
    exact w5 j b x q h1 h2 h3)
theorem C_close (ok : k_ok G l) {a w S N : Nat} {B : Nat × Nat} {h : k_H} {M : s_M} {E : e_S} {Q : List k_K2} {PS : List k_PT} (s : c_sE a h E (g_n M + 1) Q S) (r : c_rs a h M Q w PS) (p : PS.map k_pr = g_PT M) (co : c_co a B h (S + N)) (hext : ∀ c, r_val c (g_n M) E.2.1 = r_val c (g_n M) (g_E M).2.1) (hlim : e_lim E) (hpk : g_pk M) (h0 : g_p0 M) (hps : g_ps M E) :
    k_ctv (tX11_closeCommit G l) [vR (some a)] h (fun h' => c_W a B h' (g_cm M E) (N + g_sp M E) w) := by
  obtain ⟨h', t, W, -⟩ := C_closeP ok s r p co hext hlim hpk h0 hps
  exact ⟨h', t, W⟩
end CCL
end
section
/-! THE CLASS SETTLES A TRANSACTION -/
def e_ex (n : Nat) (E F : e_S) : Prop := ∀ c m, m ≤ n → r_val c m F.2.1 = r_val c m E.2.1
theorem ex_refl (n : Nat) (E : e_S) : e_ex n E E := fun _ _ _ => rfl
theorem ex_trans {n : Nat} {E F K : e_S} (a : e_ex n E F) (b : e_ex n F K) : e_ex n E K := fun c m h => (b c m h).trans (a c m h)
theorem ex_put (n c : Nat) (o : Option Int32) (E : e_S) : e_ex n E (e_put (n + 1) c o E) := fun d m h => by
  show r_val d m ((E.2.1.length, c, n + 1, o) :: E.2.1) = _
  rw [r_val_cons, if_neg (fun z => by have : n + 1 ≤ m := z.2; omega)]
theorem ex_pus (n : Nat) : ∀ (X : List (Nat × Option Int32)) (L : List k_E4) (c m : Nat), m ≤ n → r_val c m (r_pus (n + 1) X L) = r_val c m L := by
  intro X
  induction X with
  | nil => exact fun L c m _ => rfl
  | cons x X ih =>
    intro L c m h
    show r_val c m (r_pus (n + 1) X (r_pu (n + 1) L x)) = _
    rw [ih _ c m h]
    show r_val c m ((L.length, x.1, n + 1, x.2) :: L) = _
    rw [r_val_cons, if_neg (fun z => by have : n + 1 ≤ m := z.2; omega)]
theorem ex_clr (n lo hi : Nat) (E : e_S) : e_ex n E (e_clr (n + 1) lo hi E) := fun d m h => ex_pus n _ _ d m h
theorem ex_do (n : Nat) (E : e_S) (x : k_CH) : e_ex n E (e_do (n + 1) E x) := by
  unfold e_do
  split
  · split
    · exact ex_clr _ _ _ _
    · exact ex_put _ _ _ _
  · exact ex_refl _ _
theorem ex_st (n : Nat) (E : e_S) (x : k_CH) : e_ex n E (e_st (n + 1) E x) := by
  unfold e_st
  split
  · exact ex_put _ _ _ _
  · exact ex_refl _ _
theorem ex_fold {n : Nat} {A : Type} (f : e_S → A → e_S) (hf : ∀ E x, e_ex n E (f E x)) : ∀ (X : List A) (E : e_S), e_ex n E (X.foldl f E) := by
  intro X
  induction X with
  | nil => exact fun E => ex_refl _ _
  | cons x X ih => exact fun E => ex_trans (hf E x) (ih _)
theorem ex_all (n : Nat) (MC : List k_CH) (E : e_S) : e_ex n E (e_all (n + 1) MC E) := ex_trans (ex_fold _ (ex_do n) MC E) (ex_fold _ (ex_st n) MC _)
/-- changes that are gone do nothing -/
theorem mc_do (n : Nat) : ∀ (CX : List k_CX) (E : e_S), (CX.map (fun y => y.1)).foldl (e_do n) E = (c_mc CX).foldl (e_do n) E := by
  intro CX
  induction CX with
  | nil => exact fun _ => rfl
  | cons y t ih =>
    intro E
    by_cases e : y.1.2.1 = 7
    · have e1 : c_mc (y :: t) = c_mc t := by unfold c_mc; rw [List.filter_cons_of_neg (by simp [e])]
      rw [e1, ← ih]
      show (t.map (fun y => y.1)).foldl (e_do n) (e_do n E y.1) = _
      congr 1
      unfold e_do
      rw [if_neg (by unfold s_ord; rw [e]; decide)]
    · have e1 : c_mc (y :: t) = (y.2, y.1.2) :: c_mc t := by unfold c_mc; rw [List.filter_cons_of_pos (by simp [e]), List.map_cons]
      rw [e1, List.foldl_cons, ← ih]
      rfl
theorem mc_st (n : Nat) : ∀ (CX : List k_CX) (E : e_S), (CX.map (fun y => y.1)).foldl (e_st n) E = (c_mc CX).foldl (e_st n) E := by
  intro CX
  induction CX with
  | nil => exact fun _ => rfl
  | cons y t ih =>
    intro E
    by_cases e : y.1.2.1 = 7
    · have e1 : c_mc (y :: t) = c_mc t := by unfold c_mc; rw [List.filter_cons_of_neg (by simp [e])]
      rw [e1, ← ih]
      show (t.map (fun y => y.1)).foldl (e_st n) (e_st n E y.1) = _
      congr 1
      unfold e_st
      rw [if_neg (by rw [e]; decide)]
    · have e1 : c_mc (y :: t) = (y.2, y.1.2) :: c_mc t := by unfold c_mc; rw [List.filter_cons_of_pos (by simp [e]), List.map_cons]
      rw [e1, List.foldl_cons, ← ih]
      rfl
/-- the changes stay while the store moves -/
theorem cs_sto {a o aL cap n S : Nat} {h h' : k_H} {E : e_S} {Q : List k_K2} {CS : List k_CH} (c : r_cs h aL cap CS) (s : c_sE a h E n Q S) (m : k_mo a [6, 7, 11] (c_A5 a) o h h') (hL : ¬ c_A5 a aL) : r_cs h' aL cap CS :=
  ⟨m.1 _ _ c.1 hL (fun ci fs e => by cases e), fun x hx => ⟨m.1 _ _ (c.2.1 x hx).1 (sE_A5 s (c.2.1 x hx).1 (by decide)) (fun ci fs e => by cases e; decide), (c.2.1 x hx).2⟩, c.2.2⟩
section CST2
variable {G : k_G} {l : Launch}
theorem C_settle (ok : k_ok G l) {a t N w : Nat} {B : Nat × Nat} {h : k_H} {M : s_M} (W : c_W a B h M N w) (ht : t < 4) (hb : (g_X M t).1.1 = true) (hn : g_n M + 1 < 9000) (hlim : e_lim (e_all (g_n M + 1) (g_X M t).2.1 (g_E M))) (hpk : g_pk M) (h0 : g_p0 M) (hps : g_ps M (e_all (g_n M + 1) (g_X M t).2.1 (g_E M))) :
    k_ctv (tX11_settle G l) [vR (some a), vR (some (a + c_T t))] h (fun h' => c_W a B h' (g_tx (g_cm M (e_all (g_n M + 1) (g_X M t).2.1 (g_E M))) t (g_dn (g_X M t) (g_n M + 1))) (N + g_sp M (e_all (g_n M + 1) (g_X M t).2.1 (g_E M))) w) := by
  obtain ⟨Q, S, PS, s, r, p, co⟩ := W
  obtain ⟨r1, r2, r3, -⟩ := id r
  obtain ⟨f0, f1, f2, f3, f4, f5, o11⟩ := sE_obj s
  obtain ⟨CXf, x1, -⟩ := r1
  obtain ⟨RS, cap, capR, kept, o1, ⟨c1, c2, c3⟩, c4⟩ := x1 t ht
  obtain ⟨⟨d0, d1⟩, ⟨d2, d3⟩, -⟩ := c4 hb
  have hT := c_T_lt ht
  have nL : ¬ c_A5 a (a + (c_T t + 1)) := fun z => by rcases z with z | z | z | z <;> omega
  have nT : ¬ c_A5 a (a + c_T t) := fun z => by rcases z with z | z | z | z <;> omega
  have eall : e_all (g_n M + 1) ((CXf t).map (fun y => y.1)) (g_E M) = e_all (g_n M + 1) (g_X M t).2.1 (g_E M) := by
    unfold e_all
    rw [mc_st, mc_do, ← d0]
  refine k_ctv_of (eX11_settle ok.2 (bX11_settle_0 r3 rfl (k_is_o o11) (c_E_advance ok (m := 1) s (by omega)) ?_))
  rintro h1 ⟨s1, m1⟩
  have q1 := rs_sto r s m1
  have co1 : c_co a B h1 (S + N) := co_le (co_mo co m1) (Nat.le_refl _)
  have ot1 := m1.1 _ _ o1 nT (fun ci fs e => by cases e; decide)
  have cs1 := cs_sto c1 s m1 nL
  have wc : ∀ x ∈ (CXf t).map (fun y => y.1), c_wc x := fun x hx => by
    obtain ⟨y, hy, rfl⟩ := List.mem_map.mp hx
    exact (d3 y hy).2
  have hCl : ((CXf t).map (fun y => y.1)).length < 2 ^ 18 := c1.2.2
  generalize hCS : (CXf t).map (fun y => y.1) = CS at cs1 wc hCl eall
  refine bX11_settle_8 ?_
  -- behind the second loop
  have tail : ∀ (hh : k_H) (S' : Nat), c_sE a hh (e_all (g_n M + 1) CS (g_E M)) (g_n M + 1) Q S' → c_rs a hh M Q w PS → c_co a B hh (S' + N) →
      k_X (jX11_settle G l h) hh 82 [(0, vR (some a)), (1, vR (some (a + c_T t)))] [] (q_v (fun h' => c_W a B h' (g_tx (g_cm M (e_all (g_n M + 1) (g_X M t).2.1 (g_E M))) t (g_dn (g_X M t) (g_n M + 1))) (N + g_sp M (e_all (g_n M + 1) (g_X M t).2.1 (g_E M))) w)) := by
    intro hh S' s2 q2 co2
    rw [eall] at s2
    obtain ⟨f0, f1, f2, f3, f4, f5, o11⟩ := sE_obj s2
    obtain ⟨y1, y2, y3, -⟩ := id q2
    obtain ⟨CXg, z1, z2, z3, z4⟩ := id y1
    obtain ⟨RS, cap, capR, kept, o1, ⟨c1, c2, c3⟩, c4⟩ := id (z1 t ht)
    refine bX11_settle_82 y3 rfl o11 rfl o1 rfl ?_
    generalize hg : k_up hh (a + c_T t) _ = h3
    have m3 : k_mo a [] (c_At a t) 0 hh h3 := by rw [← hg]; exact mv_o o1 (Or.inr (Or.inl rfl))
    have o3 : h3.1 (a + c_T t) = some (k_o 12 [vR (some (a + (c_T t + 1))), vR (some (a + (c_T t + 2))), vI (kB (X_up (g_X M) t (g_dn (g_X M t) (g_n M + 1)) t).1.1), vI (kB (g_X M t).1.2.1), vI (nI (g_X M t).1.2.2.1), vI (nI (g_X M t).1.2.2.2.1), vI (c_dn (g_n M + 1)), vI (nI kept)]) := by
      rw [← hg, k_up_self]
      have e1 : c_dn (g_n M + 1) = nI (g_n M + 1) := by unfold c_dn; rw [if_neg (by omega)]
      have e2 : X_up (g_X M) t (g_dn (g_X M t) (g_n M + 1)) t = g_dn (g_X M t) (g_n M + 1) := by unfold X_up; rw [if_pos rfl]
      rw [e1, e2]
      rfl
    have ne : ∀ q c, hh.1 q = some c → q ≠ a + c_T t → h3.1 q = some c := fun q c hq hne => by rw [← hg, k_up_ne _ _ hne]; exact hq
    have x3 : c_TX a h3 (X_up (g_X M) t (g_dn (g_X M t) (g_n M + 1))) (g_ser M) w := by
      refine TX_one z1 z2 z3 z4 ht m3 (CX' := CXg t) (x' := g_dn (g_X M t) (g_n M + 1)) ⟨RS, cap, capR, kept, ?_, ⟨⟨ne _ _ c1.1 (by omega), fun y hy => ⟨?_, (c1.2.1 y hy).2⟩, c1.2.2⟩, ⟨ne _ _ c2.1 (by omega), fun y hy => ⟨?_, (c2.2.1 y hy).2⟩, c2.2.2⟩, c3⟩, fun e => c4 hb⟩ (Nat.le_refl _) (Nat.le_refl _) (fun y hy => Or.inl ⟨y, hy, rfl⟩)
      · have e2 : X_up (g_X M) t (g_dn (g_X M t) (g_n M + 1)) t = g_dn (g_X M t) (g_n M + 1) := by unfold X_up; rw [if_pos rfl]
        rw [e2] at o3
        exact o3
      · have := (c1.2.1 y hy).1
        exact ne _ _ this (fun z => by rw [z, o1] at this; cases this)
      · have := (c2.2.1 y hy).1
        exact ne _ _ this (fun z => by rw [z, o1] at this; cases this)
    obtain ⟨s3, q3⟩ := rs_tx (M' := g_tx M t (g_dn (g_X M t) (g_n M + 1))) s2 q2 ht m3 (by simp) x3 ⟨rfl, rfl, rfl, rfl, rfl, rfl⟩
    have co3 : c_co a B h3 (S' + N) := co_le (co_mo co2 m3) (Nat.le_refl _)
    refine bX11_settle_93 (k_is_o q3.2.2.1) (C_close ok (M := g_tx M t (g_dn (g_X M t) (g_n M + 1))) s3 q3 p.1 co3 (fun c => ex_all _ _ _ c _ (Nat.le_refl _)) hlim hpk h0 hps) ?_
    rintro h4 W4
    exact bX11_settle_97 ⟨rfl, W4⟩
  have loop2 : ∀ (todo pre : List k_CH) (hh : k_H) (E : e_S) (S' : Nat), CS = pre ++ todo → todo.foldl (e_st (g_n M + 1)) E = e_all (g_n M + 1) CS (g_E M) → c_sE a hh E (g_n M + 1) Q S' → c_rs a hh M Q w PS → c_co a B hh (S' + N) → r_cs hh (a + (c_T t + 1)) cap CS → (∃ fs, hh.1 (a + c_T t) = some (k_o 12 fs) ∧ fs[0]? = some (vR (some (a + (c_T t + 1))))) →
      k_X (jX11_settle G l h) hh 47 [(0, vR (some a)), (1, vR (some (a + c_T t))), (2, vI (nI pre.length))] [] (q_v (fun h' => c_W a B h' (g_tx (g_cm M (e_all (g_n M + 1) (g_X M t).2.1 (g_E M))) t (g_dn (g_X M t) (g_n M + 1))) (N + g_sp M (e_all (g_n M + 1) (g_X M t).2.1 (g_E M))) w)) := by
    intro todo
    induction todo with
    | nil =>
      rintro pre hh E S' hp hE s2 q2 co2 cs2 ⟨fs, ot, g0⟩
      rw [List.append_nil] at hp
      subst hp
      refine bX11_settle_47 ot g0 (Or.inr ⟨rfl, _, _, cs2.1⟩) (c_size ok cs2.1) ?_
      rintro _ _ ⟨hh2, rfl⟩
      rw [hh2, List.length_map]
      refine bX11_settle_55 (fun _ => ?_) (fun c => absurd (nI_le (Nat.le_refl _) (by omega)) c)
      rw [← hE] at tail
      exact tail hh S' s2 q2 co2
    | cons x todo ih =>
      rintro pre hh E S' hp hE s2 q2 co2 cs2 ⟨fs, ot, g0⟩
      have hlt : pre.length < CS.length := by rw [hp, List.length_append, List.length_cons]; omega
      have hx : (CS.map (fun x => x.1))[pre.length]? = some x.1 := by rw [hp]; simp
      have hxm : x ∈ CS := by rw [hp]; simp
      obtain ⟨w1, w2, w3, w4, w5⟩ := wc x hxm
      obtain ⟨f0, f1, f2, f3, f4, f5, o11⟩ := sE_obj s2
      have hxo := (cs2.2.1 x hxm).1
      refine bX11_settle_47 ot g0 (Or.inr ⟨rfl, _, _, cs2.1⟩) (c_size ok cs2.1) ?_
      rintro _ _ ⟨hh2, rfl⟩
      rw [hh2, List.length_map]
      refine bX11_settle_55 (fun c => absurd c (nI_ge hlt (by omega))) (fun _ => ?_)
      refine bX11_settle_58 q2.2.2.1 rfl ot g0 (Or.inr ⟨rfl, _, _, cs2.1⟩) (c_get ok cs2.1 hx) ?_
      rintro _ _ ⟨hh2, rfl⟩
      rw [hh2]
      have hlim2 : e_lim (e_st (g_n M + 1) E x) := by
        rw [← eall, ← hE] at hlim
        exact e_lim_le hlim (e_le_sts _ todo _)
      refine bX11_settle_70 hxo (k_is_o o11) (c_E_applyStamped ok s2 hxo (by omega) hn w4 hlim2) ?_
      rintro h3 ⟨S3, s3, hS3, m3⟩
      have q3 := rs_sto q2 s2 m3
      refine bX11_settle_76 ?_
      rw [nI_1]
      have := ih (pre ++ [x]) h3 (e_st (g_n M + 1) E x) S3 (by rw [hp]; simp) hE s3 q3 (co_le (co_mo co2 m3) (by omega)) (cs_sto cs2 s2 m3 nL) ⟨fs, m3.1 _ _ ot nT (fun ci fs e => by cases e; decide), g0⟩
      rw [List.length_append, List.length_singleton] at this
      exact this
  have loop1 : ∀ (todo pre : List k_CH) (hh : k_H) (E : e_S) (S' : Nat), CS = pre ++ todo → todo.foldl (e_do (g_n M + 1)) E = CS.foldl (e_do (g_n M + 1)) (g_E M) → c_sE a hh E (g_n M + 1) Q S' → c_rs a hh M Q w PS → c_co a B hh (S' + N) → r_cs hh (a + (c_T t + 1)) cap CS → (∃ fs, hh.1 (a + c_T t) = some (k_o 12 fs) ∧ fs[0]? = some (vR (some (a + (c_T t + 1))))) →
      k_X (jX11_settle G l h) hh 10 [(0, vR (some a)), (1, vR (some (a + c_T t))), (2, vI (nI pre.length))] [] (q_v (fun h' => c_W a B h' (g_tx (g_cm M (e_all (g_n M + 1) (g_X M t).2.1 (g_E M))) t (g_dn (g_X M t) (g_n M + 1))) (N + g_sp M (e_all (g_n M + 1) (g_X M t).2.1 (g_E M))) w)) := by
    intro todo
    induction todo with
    | nil =>
      rintro pre hh E S' hp hE s2 q2 co2 cs2 ⟨fs, ot, g0⟩
      rw [List.append_nil] at hp
      have hpl : pre.length = CS.length := by rw [hp]
      refine bX11_settle_10 ot g0 (Or.inr ⟨rfl, _, _, cs2.1⟩) (c_size ok cs2.1) ?_
      rintro _ _ ⟨hh2, rfl⟩
      rw [hh2, List.length_map]
      refine bX11_settle_18 (fun _ => bX11_settle_45 ?_) (fun c => absurd (nI_le (Nat.le_of_eq hpl.symm) (by omega)) c)
      exact loop2 CS [] hh E S' rfl (by unfold e_all; rw [← hE]; rfl) s2 q2 co2 cs2 ⟨fs, ot, g0⟩
    | cons x todo ih =>
      rintro pre hh E S' hp hE s2 q2 co2 cs2 ⟨fs, ot, g0⟩
      have hlt : pre.length < CS.length := by rw [hp, List.length_append, List.length_cons]; omega
      have hx : (CS.map (fun x => x.1))[pre.length]? = some x.1 := by rw [hp]; simp
      have hxm : x ∈ CS := by rw [hp]; simp
      obtain ⟨w1, w2, w3, w4, w5⟩ := wc x hxm
      obtain ⟨f0, f1, f2, f3, f4, f5, o11⟩ := sE_obj s2
      have hxo := (cs2.2.1 x hxm).1
      refine bX11_settle_10 ot g0 (Or.inr ⟨rfl, _, _, cs2.1⟩) (c_size ok cs2.1) ?_
      rintro _ _ ⟨hh2, rfl⟩
      rw [hh2, List.length_map]
      refine bX11_settle_18 (fun c => absurd c (nI_ge hlt (by omega))) (fun _ => ?_)
      refine bX11_settle_21 q2.2.2.1 rfl ot g0 (Or.inr ⟨rfl, _, _, cs2.1⟩) (c_get ok cs2.1 hx) ?_
      rintro _ _ ⟨hh2, rfl⟩
      rw [hh2]
      have hlim2 : e_lim (e_do (g_n M + 1) E x) := by
        have h1 : e_le (e_do (g_n M + 1) E x) (e_all (g_n M + 1) CS (g_E M)) := by
          unfold e_all
          rw [← hE]
          exact e_le_trans (e_le_dos _ todo _) (e_le_sts _ CS _)
        rw [eall] at h1
        exact e_lim_le hlim h1
      refine bX11_settle_33 hxo (k_is_o o11) (c_E_applyInOrder ok s2 hxo w1 w2 w3 hlim2) ?_
      rintro h3 ⟨S3, s3, hS3, m3⟩
      have q3 := rs_sto q2 s2 m3
      refine bX11_settle_39 ?_
      rw [nI_1]
      have := ih (pre ++ [x]) h3 (e_do (g_n M + 1) E x) S3 (by rw [hp]; simp) hE s3 q3 (co_le (co_mo co2 m3) (by omega)) (cs_sto cs2 s2 m3 nL) ⟨fs, m3.1 _ _ ot nT (fun ci fs e => by cases e; decide), g0⟩
      rw [List.length_append, List.length_singleton] at this
      exact this
  exact loop1 CS [] h1 (g_E M) S rfl rfl s1 q1 co1 cs1 ⟨_, ot1, rfl⟩
end CST2
end
section
/-! THE CLASS'S COMMIT -/
theorem up_same {h : k_H} {q : Nat} {c : k_C} (e : h.1 q = some c) : k_up h q c = h := by
  obtain ⟨f, n, m⟩ := h
  unfold k_up
  refine Prod.ext (funext fun p => ?_) rfl
  show (if p = q then some c else f p) = f p
  by_cases z : p = q
  · rw [if_pos z, z]; exact e.symm
  · rw [if_neg z]
theorem W_over {a t N w : Nat} {B : Nat × Nat} {h h' : k_H} {M : s_M} {fs : List k_V} (W : c_W a B h M N w) (ht : t < 4) (ho : h.1 (a + c_T t) = some (k_o 12 fs)) (hh : h' = k_up h (a + c_T t) (k_o 12 (fs.set 2 (vI 0)))) : c_W a B h' (g_tx M t (g_ov (g_X M t))) N w := by
  obtain ⟨Q, S, PS, s, r, p, co⟩ := W
  obtain ⟨r1, -⟩ := id r
  obtain ⟨CXg, z1, z2, z3, z4⟩ := id r1
  obtain ⟨RS, cap, capR, kept, o1, ⟨c1, c2, c3⟩, c4⟩ := id (z1 t ht)
  rw [o1] at ho
  have hfs : fs = [vR (some (a + (c_T t + 1))), vR (some (a + (c_T t + 2))), vI (kB (g_X M t).1.1), vI (kB (g_X M t).1.2.1), vI (nI (g_X M t).1.2.2.1), vI (nI (g_X M t).1.2.2.2.1), vI (c_dn (g_X M t).1.2.2.2.2), vI (nI kept)] := by
    injection ho with h1; injection h1 with h2; exact (Prod.mk.inj h2).2.symm
  subst hfs
  have m3 : k_mo a [] (c_At a t) 0 h h' := by rw [hh]; exact mv_o o1 (Or.inr (Or.inl rfl))
  have ne : ∀ q c, h.1 q = some c → q ≠ a + c_T t → h'.1 q = some c := fun q c hq hne => by rw [hh, k_up_ne _ _ hne]; exact hq
  have x3 : c_TX a h' (X_up (g_X M) t (g_ov (g_X M t))) (g_ser M) w := by
    refine TX_one z1 z2 z3 z4 ht m3 (CX' := CXg t) (x' := g_ov (g_X M t)) ⟨RS, cap, capR, kept, by rw [hh]; exact k_up_self _ _ _, ⟨⟨ne _ _ c1.1 (by omega), fun y hy => ⟨?_, (c1.2.1 y hy).2⟩, c1.2.2⟩, ⟨ne _ _ c2.1 (by omega), fun y hy => ⟨?_, (c2.2.1 y hy).2⟩, c2.2.2⟩, c3⟩, fun e => by cases e⟩ (Nat.le_refl _) (Nat.le_refl _) (fun y hy => Or.inl ⟨y, hy, rfl⟩)
    · have := (c1.2.1 y hy).1
      exact ne _ _ this (fun z => by rw [z, o1] at this; cases this)
    · have := (c2.2.1 y hy).1
      exact ne _ _ this (fun z => by rw [z, o1] at this; cases this)
  obtain ⟨s3, q3⟩ := rs_tx (M' := g_tx M t (g_ov (g_X M t))) s r ht m3 (by simp) x3 ⟨rfl, rfl, rfl, rfl, rfl, rfl⟩
  exact ⟨Q, S, PS, s3, q3, p, co_le (co_mo co m3) (Nat.le_refl _)⟩
theorem W_obj {a t N w : Nat} {B : Nat × Nat} {h : k_H} {M : s_M} (W : c_W a B h M N w) (ht : t < 4) : ∃ fs, h.1 (a + c_T t) = some (k_o 12 fs) ∧ fs.length = 8 ∧ fs.set 2 (vI (kB (g_X M t).1.1)) = fs := by
  obtain ⟨Q, S, PS, s, r, p, co⟩ := W
  obtain ⟨kept, o, -⟩ := tx_obj r.1 ht
  exact ⟨_, o, rfl, rfl⟩
theorem W_ob {a N w : Nat} {B : Nat × Nat} {h : k_H} {M : s_M} (W : c_W a B h M N w) : c_ob a h M ∧ ∃ f0 f1 f2 f3 f4 f5, h.1 (a + 1) = some (k_o 11 [f0, f1, f2, f3, f4, f5, vI (nI (g_n M))]) := by
  obtain ⟨Q, S, PS, s, r, p, co⟩ := W
  exact ⟨r.2.2.1, sE_obj s⟩
theorem nI_n3 {i : Nat} (h : i < 2 ^ 31) : ¬ nI i = -3 := fun e => by
  have h1 := congrArg Int32.toInt e
  rw [nI_toInt h] at h1
  have h2 : (-3 : Int32).toInt = -3 := by decide
  rw [h2] at h1
  omega
/-- the state behind the doing -/
def g_did (M : s_M) (t : Nat) : s_M := g_tx (g_cm (g_sl M 0) (e_all (g_n M + 1) (g_X M t).2.1 (g_E M))) t (g_dn (g_X M t) (g_n M + 1))
theorem td_cm {M : s_M} {t : Nat} (hn : g_n M < 2 ^ 20) (hra : (g_X M t).1.2.2.1 ≤ g_n M) (hd : (g_X M t).1.2.2.2.2 ≤ g_n M) :
    (¬ (f_td M t).2 = -2147483648 ∧ f_commit M t = (g_tx (f_td M t).1 t (g_ov (g_X (f_td M t).1 t)), (f_td M t).2)) ∨
    (f_td M t = (M, -2147483648) ∧ g_goes M t = true ∧ f_commit M t = if g_los M = 2 then (g_sl M 0, -3) else if g_los M = 1 then (g_did M t, -3) else (g_tx (g_did M t) t (g_ov (g_X (g_did M t) t)), nI (g_n M + 1))) := by
  by_cases c0 : (g_X M t).1.2.1 = true ∧ 0 < (g_X M t).1.2.2.2.2
  · have e : f_td M t = (M, nI (g_X M t).1.2.2.2.2) := by unfold f_td; rw [if_pos c0]
    rw [e]
    exact Or.inl ⟨wk_ne (by omega), by unfold f_commit; rw [if_pos c0]⟩
  · have ec : f_commit M t = if (f_cmd M t).2 = -3 then f_cmd M t else (g_tx (f_cmd M t).1 t (g_ov (g_X (f_cmd M t).1 t)), (f_cmd M t).2) := by unfold f_commit; rw [if_neg c0]
    by_cases c1 : (g_X M t).2.1.length = 0
    · have e : f_td M t = (M, nI (g_X M t).1.2.2.1) := by unfold f_td; rw [if_neg c0, if_pos c1]
      have e2 : f_cmd M t = (M, nI (g_X M t).1.2.2.1) := by unfold f_cmd; rw [if_pos c1]
      rw [e]
      refine Or.inl ⟨wk_ne (by omega), ?_⟩
      rw [ec, e2, if_neg]
      exact nI_n3 (by omega)
    · by_cases c2 : 30 < g_n M - (g_X M t).1.2.2.1 ∨ ¬ (g_X M t).1.2.2.2.1 = g_gen M
      · have e : f_td M t = (M, -2) := by unfold f_td; rw [if_neg c0, if_neg c1, if_pos c2]
        have e2 : f_cmd M t = (M, -2) := by unfold f_cmd; rw [if_neg c1, if_pos c2]
        rw [e]
        refine Or.inl ⟨by show ¬ (-2 : Int32) = -2147483648; decide, ?_⟩
        rw [ec, e2, if_neg (show ¬ (-2 : Int32) = -3 by decide)]
      · cases hf : (g_X M t).2.2.findIdx? (s_met (g_X M t).2.1 (g_X M t).1.2.2.1 (g_E M).2.1 (g_E M).2.2) with
        | some k =>
          have e : f_td M t = (g_sw M (nI k), -1) := by unfold f_td; rw [if_neg c0, if_neg c1, if_neg c2, hf]
          have e2 : f_cmd M t = (g_sw M (nI k), -1) := by unfold f_cmd; rw [if_neg c1, if_neg c2, hf]
          rw [e]
          refine Or.inl ⟨by show ¬ (-1 : Int32) = -2147483648; decide, ?_⟩
          rw [ec, e2, if_neg (show ¬ (-1 : Int32) = -3 by decide)]
        | none =>
          have e : f_td M t = (M, -2147483648) := by unfold f_td; rw [if_neg c0, if_neg c1, if_neg c2, hf]
          have e2 : f_cmd M t = if g_los M = 2 then (g_sl M 0, -3) else (g_did M t, if g_los M = 1 then -3 else nI (g_n M + 1)) := by unfold f_cmd; rw [if_neg c1, if_neg c2, hf]; rfl
          refine Or.inr ⟨e, ?_, ?_⟩
          · have c3 : ¬ 30 < g_n M - (g_X M t).1.2.2.1 := fun z => c2 (Or.inl z)
            have c4 : (g_X M t).1.2.2.2.1 = g_gen M := Classical.not_not.mp (fun z => c2 (Or.inr z))
            unfold g_goes
            rw [hf, decide_eq_false c1, decide_eq_false c3, decide_eq_true c4]
            rfl
          · rw [ec, e2]
            by_cases l2 : g_los M = 2
            · rw [if_pos l2, if_pos l2]; rfl
            · rw [if_neg l2, if_neg l2]
              by_cases l1 : g_los M = 1
              · rw [if_pos l1, if_pos l1]; rfl
              · rw [if_neg l1, if_neg l1, if_neg]
                exact nI_n3 (by omega)
section CCM
variable {G : k_G} {l : Launch}
theorem C_commit (ok : k_ok G l) {a N w k : Nat} {B : Nat × Nat} {h : k_H} {M : s_M} {x : Int32} (W : c_W a B h M N w) (hn : g_n M + 1 < 9000) (hgen : g_gen M < 2 ^ 31) (hlos : g_los M ≤ 2) (hx : ∀ t, t < 4 → (g_X M t).1.2.2.1 ≤ g_n M ∧ (g_X M t).1.2.2.2.1 < 2 ^ 31 ∧ (g_X M t).1.2.2.2.2 ≤ g_n M ∧ (g_X M t).2.1.length < 2 ^ 20) (hlim : e_lim (g_E M)) (hws : g_ws M) (hpk : g_pk M) (h0 : g_p0 M)
    (hgo : ∀ t, t < 4 → g_goes M t = true → g_ps M (e_all (g_n M + 1) (g_X M t).2.1 (g_E M)) ∧ e_lim (e_all (g_n M + 1) (g_X M t).2.1 (g_E M)) ∧ g_sp M (e_all (g_n M + 1) (g_X M t).2.1 (g_E M)) ≤ k) :
    k_ct (tX11_commit G l) [vR (some a), vI x] h (c_R a B (F_commit M x) x_I (N + 1 + k) w) := by
  obtain ⟨Q, S, PS, s, r, p, co⟩ := id W
  obtain ⟨r1, r2, r3, r4, r5, r6, r7⟩ := id r
  refine eX11_commit ok.2 ?_
  cases hin : s_inB x 0 3 with
  | false =>
    refine bX11_commit_0x (k_is_o r3) (c_trAtX ok r3 r4 hin) ?_
    rintro _ rfl
    have hF : F_commit M x = (M, 1, 0) := by unfold F_commit; rw [if_pos hin]
    rw [hF]
    exact ⟨W_le (W_sk W) (by omega), rfl⟩
  | true =>
    obtain ⟨t, ht, rfl, e9⟩ := s_in4 hin
    have e9 : t_of (nI t) = t := e9
    refine bX11_commit_0 (k_is_o r3) (c_trAt ok r3 r4 r1 ht) ?_
    rintro _ _ ⟨hh, rfl⟩
    rw [hh]
    cases hb : (g_X M t).1.1 with
    | false =>
      refine bX11_commit_5x (c_begunX ok r1 ht hb) ?_
      rintro _ rfl
      have hF : F_commit M (nI t) = (M, 2, 0) := by unfold F_commit; rw [if_neg (by rw [hin]; decide), e9, if_pos hb]
      rw [hF]
      exact ⟨W_le (W_sk W) (by omega), rfl⟩
    | true =>
      have hF : F_commit M (nI t) = ((f_commit M t).1, 0, (f_commit M t).2) := by unfold F_commit; rw [if_neg (by rw [hin]; decide), e9, if_neg (by rw [hb]; decide)]
      rw [hF]
      obtain ⟨x1, x2, x3, x4⟩ := hx t ht
      have hn9 := (sE_n s).1
      refine bX11_commit_5 (c_begun ok r1 ht hb) ?_
      rintro _ hh
      rw [hh]
      refine bX11_commit_10 (k_is_o r3) (C_told ok W ht hb x1 ⟨hgen, x2, by omega⟩ x4 hlim hws) ?_
      rintro h1 _ ⟨W1, rfl⟩
      rcases td_cm (M := M) (t := t) (by omega) x1 x3 with ⟨c1, ef⟩ | ⟨c1, hg, ef⟩
      · refine bX11_commit_15 (fun z => absurd z c1) (fun _ => ?_)
        obtain ⟨fs, o2, o3, o4⟩ := W_obj W1 ht
        refine bX11_commit_22 o2 o3 ?_
        generalize hh : k_up h1 (a + c_T t) _ = h2
        have W2 := W_over W1 ht o2 hh.symm
        rw [ef]
        exact bX11_commit_27 ⟨W_le W2 (by omega), rfl⟩
      · rw [c1] at W1 ⊢
        obtain ⟨g1, g2, g3⟩ := hgo t ht hg
        refine bX11_commit_15 (fun _ => ?_) (fun z => absurd rfl z)
        obtain ⟨o1, -⟩ := W_ob W1
        -- the losing is forgotten
        have los : ∀ (z : Int32) (d : Int32), (z = if g_los M = 0 then 0 else 1) → (d = if g_los M = 2 then 0 else 1) → k_X (jX11_commit G l h) h1 56 [(0, vR (some a)), (2, vR (some (a + c_T t))), (4, vI z)] [vI d] (c_R a B ((f_commit M t).1, 0, (f_commit M t).2) x_I (N + 1 + k) w) := by
          intro z d hz hd
          refine bX11_commit_56 o1 rfl ?_
          generalize hh : k_up h1 a _ = h2
          have ho : c_ob a h2 (g_sl M 0) := by rw [← hh]; exact k_up_self _ _ _
          have W2 : c_W a B h2 (g_sl M 0) N w := W_own W1 hh.symm ho ⟨rfl, rfl, rfl, rfl, rfl⟩ ⟨rfl, rfl, rfl⟩
          refine bX11_commit_63 (fun c2 => ?_) (fun c2 => ?_)
          · have l2 : g_los M = 2 := by
              by_cases e : g_los M = 2
              · exact e
              · rw [hd, if_neg e] at c2; exact absurd c2 (by decide)
            rw [if_pos l2] at ef
            have ez : z = 1 := by rw [hz, if_neg (by omega)]
            obtain ⟨fs, o2, o3, o4⟩ := W_obj W2 ht
            have hb2 : (g_X (g_sl M 0) t).1.1 = true := hb
            rw [hb2] at o4
            refine bX11_commit_73 o2 (by rw [ez]; exact Or.inr rfl) o3 ?_
            have es : k_up h2 (a + c_T t) (k_o 12 (fs.set 2 (vI z))) = h2 := by
              rw [ez]
              have : fs.set 2 (vI 1) = fs := o4
              rw [this]
              exact up_same o2
            rw [es]
            refine bX11_commit_79 (fun c3 => absurd c3 (by rw [ez]; decide)) (fun _ => bX11_commit_84 (bX11_commit_96 ?_))
            rw [ef]
            exact ⟨W_le W2 (by omega), rfl⟩
          · have l2 : ¬ g_los M = 2 := fun e => c2 (by rw [hd, if_pos e])
            rw [if_neg l2] at ef
            refine bX11_commit_68 (k_is_o ho) (C_settle ok W2 ht hb hn g2 hpk h0 g1) ?_
            rintro h3 W3
            have W3 : c_W a B h3 (g_did M t) (N + g_sp M (e_all (g_n M + 1) (g_X M t).2.1 (g_E M))) w := W3
            obtain ⟨fs, o2, o3, o4⟩ := W_obj W3 ht
            have hX : g_X (g_did M t) t = g_dn (g_X M t) (g_n M + 1) := by
              show (if t = t then _ else _) = _
              rw [if_pos rfl]
            have hb2 : (g_X (g_did M t) t).1.1 = true := by rw [hX]; exact hb
            rw [hb2] at o4
            by_cases l1 : g_los M = 1
            · rw [if_pos l1] at ef
              have ez : z = 1 := by rw [hz, if_neg (by omega)]
              refine bX11_commit_73 o2 (by rw [ez]; exact Or.inr rfl) o3 ?_
              have es : k_up h3 (a + c_T t) (k_o 12 (fs.set 2 (vI z))) = h3 := by
                rw [ez]
                have : fs.set 2 (vI 1) = fs := o4
                rw [this]
                exact up_same o2
              rw [es]
              refine bX11_commit_79 (fun c3 => absurd c3 (by rw [ez]; decide)) (fun _ => bX11_commit_84 (bX11_commit_96 ?_))
              rw [ef]
              exact ⟨W_le W3 (by omega), rfl⟩
            · rw [if_neg l1] at ef
              have ez : z = 0 := by rw [hz, if_pos (by omega)]
              refine bX11_commit_73 o2 (by rw [ez]; exact Or.inl rfl) o3 ?_
              rw [ez]
              generalize hh : k_up h3 (a + c_T t) _ = h4
              have W4 := W_over W3 ht o2 hh.symm
              obtain ⟨o5, f0, f1, f2, f3, f4, f5, o11⟩ := W_ob W4
              refine bX11_commit_79 (fun _ => bX11_commit_89 o5 rfl o11 rfl (bX11_commit_96 ?_)) (fun c3 => absurd rfl c3)
              rw [ef]
              exact ⟨W_le W4 (by omega), rfl⟩
        have lost : ∀ z : Int32, (z = if g_los M = 0 then 0 else 1) → k_X (jX11_commit G l h) h1 41 [(0, vR (some a)), (2, vR (some (a + c_T t)))] [vI z] (c_R a B ((f_commit M t).1, 0, (f_commit M t).2) x_I (N + 1 + k) w) := by
          intro z hz
          refine bX11_commit_41 o1 rfl (fun c2 => bX11_commit_55 (los z 0 hz ?_)) (fun c2 => bX11_commit_51 (los z 1 hz ?_))
          · rw [if_pos ((nI_eq (a := g_los M) (b := 2) (by omega) (by decide)).mp c2)]
          · rw [if_neg (fun e => c2 (by rw [e]; rfl))]
        refine bX11_commit_29 o1 rfl (fun c2 => bX11_commit_40 (lost 0 ?_)) (fun c2 => bX11_commit_36 (lost 1 ?_))
        · rw [if_pos ((nI_eq (a := g_los M) (b := 0) (by omega) (by decide)).mp c2)]
        · rw [if_neg (fun e => c2 (by rw [e]; rfl))]
end CCM
end
section
/-! OPEN COMMITS OF THE CLASS; off, work, bringing back -/
def c_O (a : Nat) (B : Nat × Nat) (h : k_H) (M : s_M) (E : e_S) (N w : Nat) : Prop := ∃ (Q : List k_K2) (S : Nat) (PS : List k_PT), c_sE a h E (g_n M + 1) Q S ∧ c_rs a h M Q w PS ∧ PS.map k_pr = g_PT M ∧ c_co a B h (S + N)
theorem O_ob {a N w : Nat} {B : Nat × Nat} {h : k_H} {M : s_M} {E : e_S} (O : c_O a B h M E N w) : c_ob a h M ∧ ∃ f0 f1 f2 f3 f4 f5, h.1 (a + 1) = some (k_o 11 [f0, f1, f2, f3, f4, f5, vI (nI (g_n M + 1))]) := by
  obtain ⟨Q, S, PS, s, r, p, co⟩ := O
  exact ⟨r.2.2.1, sE_obj s⟩
theorem O_n {a N w : Nat} {B : Nat × Nat} {h : k_H} {M : s_M} {E : e_S} (O : c_O a B h M E N w) : g_n M + 1 ≤ 9000 := by
  obtain ⟨Q, S, PS, s, r, p, co⟩ := O
  exact (sE_n s).1
theorem s_na_m2 {x : Int32} (h : s_inB x 0 2 = true) : s_na (-2 - x) ∧ ¬ (-2 - x) = 10000 ∧ s_na x ∧ (0 ≤ x ∧ x < 3) := by
  rcases s_in3 h with rfl | rfl | rfl
  · exact ⟨Or.inr (by unfold s_nm; decide), by decide, Or.inr (by unfold s_nm; decide), by decide⟩
  · exact ⟨Or.inr (by unfold s_nm; decide), by decide, Or.inr (by unfold s_nm; decide), by decide⟩
  · exact ⟨Or.inr (by unfold s_nm; decide), by decide, Or.inr (by unfold s_nm; decide), by decide⟩
theorem in3_not {x : Int32} (h : s_inB x 0 2 = false) : ¬ (0 ≤ x ∧ x < 3) := fun z => by
  unfold s_inB at h
  rw [decide_eq_true (Int32.not_lt.mpr z.1), Bool.true_and, decide_eq_false_iff_not, Classical.not_not] at h
  have h1 := Int32.lt_iff_toInt_lt.mp h
  have h2 := Int32.lt_iff_toInt_lt.mp z.2
  have e1 : (2 : Int32).toInt = 2 := by decide
  have e2 : (3 : Int32).toInt = 3 := by decide
  omega
theorem na_m6 : s_na (-6) ∧ s_na (-7) ∧ s_na (-5) ∧ s_na (-4) ∧ s_na (-3) ∧ s_na (-2) ∧ s_na (-1) ∧ s_na 10000 :=
  ⟨Or.inr (by unfold s_nm; decide), Or.inr (by unfold s_nm; decide), Or.inr (by unfold s_nm; decide), Or.inr (by unfold s_nm; decide), Or.inr (by unfold s_nm; decide), Or.inr (by unfold s_nm; decide), Or.inr (by unfold s_nm; decide), Or.inl rfl⟩
section COC
variable {G : k_G} {l : Launch}
theorem O_openM (ok : k_ok G l) {a N w : Nat} {B : Nat × Nat} {h : k_H} {M : s_M} (W : c_W a B h M N w) (hn : g_n M + 1 ≤ 9000) : k_ctv (tX8_advance G l) [vR (some (a + 1)), vI 1] h (fun h' => c_O a B h' M (g_E M) N w ∧ k_mo a [11] (fun _ => False) 0 h h') := by
  obtain ⟨Q, S, PS, s, r, p, co⟩ := W
  obtain ⟨KS, L, WS, z, st, rE, q, e⟩ := id s
  obtain ⟨h', t, hh⟩ := c_X8_advance ok (m := 1) (st_obj st) hn
  have st' := c_st_adv (m := 1) st hn
  rw [← hh] at st'
  have m : k_mo a [11] (fun _ => False) 0 h h' := by rw [hh]; exact mv_o (st_obj st) (Or.inl (by simp))
  have s1 : c_sE a h' (g_E M) (g_n M + 1) Q S := ⟨KS, L, WS, z, st', rE, q, e⟩
  exact ⟨h', t, ⟨Q, S, PS, s1, rs_fr r m (fun k hk => by simp at hk; simp [hk]) (fun _ _ _ z => z) (fun _ _ _ _ _ z => z), p.1, co_le (co_mo co m) (Nat.le_refl _)⟩, m⟩
theorem O_open (ok : k_ok G l) {a N w : Nat} {B : Nat × Nat} {h : k_H} {M : s_M} (W : c_W a B h M N w) (hn : g_n M + 1 ≤ 9000) : k_ctv (tX8_advance G l) [vR (some (a + 1)), vI 1] h (fun h' => c_O a B h' M (g_E M) N w ∧ ∀ c0 q0, c_pin a h c0 q0 → c_pin a h' c0 q0) := by
  obtain ⟨h', t, O, m⟩ := O_openM ok W hn
  exact ⟨h', t, O, fun c0 q0 h0 => pin_fr h0 m (by decide) id (fun _ _ _ z => z)⟩
theorem O_alter (ok : k_ok G l) {a N w c : Nat} {B : Nat × Nat} {h : k_H} {M : s_M} {E : e_S} {kd g : Int32} (O : c_O a B h M E N w) (hc : c < 1331000000000) (hlim : e_lim (e_put (g_n M + 1) c (s_apO kd g (nI (g_n M + 1)) (r_val c (g_n M + 1) E.2.1)) E)) :
    k_ctv (tX8_alter G l) [vR (some (a + 1)), vI kd, vJ (lN c), vI g] h (fun h' => c_O a B h' M (e_put (g_n M + 1) c (s_apO kd g (nI (g_n M + 1)) (r_val c (g_n M + 1) E.2.1)) E) N w ∧ ∀ c0 q0, c0 < 2 ^ 62 → c_pin a h c0 q0 → c_pin a h' c0 q0) := by
  obtain ⟨Q, S, PS, s, r, p, co⟩ := O
  obtain ⟨h', t, S', s', hS, m, pn⟩ := c_E_alterP ok (kd := kd) (g := g) s hc hlim
  exact ⟨h', t, ⟨Q, S', PS, s', rs_sto r s m, p, co_le (co_mo co m) (by omega)⟩, pn⟩
theorem O_wipeM (ok : k_ok G l) {a N w lo hi : Nat} {B : Nat × Nat} {h : k_H} {M : s_M} {E : e_S} (O : c_O a B h M E N w) (hlo : lo < hi) (hhi : hi ≤ 1331000000000) (hlim : e_lim (e_clr (g_n M + 1) lo hi E)) :
    k_ctv (tX8_wipe G l) [vR (some (a + 1)), vJ (lN lo), vJ (lN hi)] h (fun h' => c_O a B h' M (e_clr (g_n M + 1) lo hi E) N w ∧ ∃ o, k_mo a [6, 7, 11] (c_A5 a) o h h') := by
  obtain ⟨Q, S, PS, s, r, p, co⟩ := O
  obtain ⟨h', t, S', s', hS, m⟩ := c_E_wipe ok s hlo hhi hlim
  exact ⟨h', t, ⟨Q, S', PS, s', rs_sto r s m, p, co_le (co_mo co m) (by omega)⟩, _, m⟩
theorem O_wipe (ok : k_ok G l) {a N w lo hi : Nat} {B : Nat × Nat} {h : k_H} {M : s_M} {E : e_S} (O : c_O a B h M E N w) (hlo : lo < hi) (hhi : hi ≤ 1331000000000) (hlim : e_lim (e_clr (g_n M + 1) lo hi E)) :
    k_ctv (tX8_wipe G l) [vR (some (a + 1)), vJ (lN lo), vJ (lN hi)] h (fun h' => c_O a B h' M (e_clr (g_n M + 1) lo hi E) N w) := by
  obtain ⟨h', t, O', -⟩ := O_wipeM ok O hlo hhi hlim
  exact ⟨h', t, O'⟩
theorem O_closeM (ok : k_ok G l) {a N w : Nat} {B : Nat × Nat} {h : k_H} {M : s_M} {E : e_S} (O : c_O a B h M E N w) (hext : e_ex (g_n M) (g_E M) E) (hlim : e_lim E) (hpk : g_pk M) (h0 : g_p0 M) (hps : g_ps M E) :
    k_ctv (tX11_closeCommit G l) [vR (some a)] h (fun h' => c_W a B h' (g_cm M E) (N + g_sp M E) w ∧ k_mo a [8, 13] (fun q => q = a + 4 ∨ q = a + 7) (g_sp M E) h h') := by
  obtain ⟨Q, S, PS, s, r, p, co⟩ := O
  exact C_closeP ok s r p co (fun c => hext c _ (Nat.le_refl _)) hlim hpk h0 hps
theorem O_close (ok : k_ok G l) {a N w : Nat} {B : Nat × Nat} {h : k_H} {M : s_M} {E : e_S} (O : c_O a B h M E N w) (hext : e_ex (g_n M) (g_E M) E) (hlim : e_lim E) (hpk : g_pk M) (h0 : g_p0 M) (hps : g_ps M E) :
    k_ctv (tX11_closeCommit G l) [vR (some a)] h (fun h' => c_W a B h' (g_cm M E) (N + g_sp M E) w ∧ ∀ c0 q0, c_pin a h c0 q0 → c_pin a h' c0 q0) := by
  obtain ⟨h', t, W, m⟩ := O_closeM ok O hext hlim hpk h0 hps
  obtain ⟨Q, S, PS, s, r, p, co⟩ := O
  obtain ⟨KS, L, WS, z', st, -⟩ := id s
  obtain ⟨cK, cW, cH, xs, ka, ⟨-, -, -, s4', -⟩, -⟩ := id st
  obtain ⟨-, ⟨cap, p1, -⟩, -⟩ := id r.2.1
  refine ⟨h', t, W, fun c0 q0 h0 => pin_fr h0 m (by decide) (by omega) (fun q fs hq z => ?_)⟩
  rcases z with z | z
  · rw [z, s4'] at hq; cases hq
  · rw [z, p1] at hq; cases hq
theorem W_list (ok : k_ok G l) {a N w lo hi : Nat} {B : Nat × Nat} {h : k_H} {M : s_M} (W : c_W a B h M N w) (hlo : lo < 2 ^ 62) (hhi : hi < 2 ^ 62) (hlim : e_lim (g_E M)) : k_ctr (tX8_listHeld G l) [vR (some (a + 1)), vJ (lN lo), vJ (lN hi)] h (fun h' v => v = some (a + 4) ∧ c_W a B h' M N w ∧ (∃ (X : List k_K2) (cap : Nat), h'.1 (a + 4) = some (k_l (X.map (fun x => x.2)) cap) ∧ X.map (fun x => x.1) = (c_hl lo hi (g_n M) (g_E M).1 (g_E M).2.1).map (fun x => x.1) ∧ ∀ y ∈ X, y.1 < 1331000000000 ∧ c_pin a h' y.1 y.2)) := by
  obtain ⟨Q, S, PS, s, r, p, co⟩ := W
  obtain ⟨h', v, t, e, s', ⟨X, cap, x1, x2, x3⟩, m⟩ := c_E_listHeldP ok s hlo hhi hlim
  exact ⟨h', v, t, e, ⟨Q, S, PS, s', rs_sto r s (mv_mono m (fun _ h => by cases h) (fun p h => Or.inr (Or.inr (Or.inl h))) (Nat.le_refl _)), p, co_le (co_mo co m) (Nat.le_refl _)⟩, X, cap, x1, x2, fun y hy => ⟨(x3 y hy).1, (x3 y hy).2.1⟩⟩
theorem W_value (ok : k_ok G l) {a N w c : Nat} {B : Nat × Nat} {h : k_H} {M : s_M} (W : c_W a B h M N w) (hc : c < 2 ^ 62) : k_cti (tX8_valueNow G l) [vR (some (a + 1)), vJ (lN c)] h (fun h' v => c_W a B h' M N w ∧ v = o_told (rk_v M c) ∧ (∀ c0 q0, c_pin a h c0 q0 → c_pin a h' c0 q0) ∧ ∀ (ys : List Nat) (cap : Nat), h.1 (a + 4) = some (k_l ys cap) → h'.1 (a + 4) = some (k_l ys cap)) := by
  obtain ⟨Q, S, PS, s, r, p, co⟩ := W
  obtain ⟨h', v, t, s', e, m⟩ := c_E_valueNowP ok s hc
  obtain ⟨KS, L, WS, z, st, -⟩ := id s
  have hcl := st_cell st
  refine ⟨h', v, t, ⟨Q, S, PS, s', rs_sto r s (mv_mono m (fun _ h => by cases h) (fun p h => Or.inr (Or.inr (Or.inr h))) (Nat.le_refl _)), p, co_le (co_mo co m) (Nat.le_refl _)⟩, e, fun c0 q0 h0 => pin_fr h0 m (by simp) (by omega) (fun q fs hq z => ?_), fun ys cap hy => m.1 _ _ hy (by omega) (fun ci fs e => by cases e)⟩
  rw [z, hcl] at hq; cases hq
theorem pin_o {a c q : Nat} {h : k_H} (p : c_pin a h c q) : ∃ f, h.1 q = some (k_o 7 [vJ (lN c), f]) := by
  obtain ⟨xs, cap, p1, p2, f, p3⟩ := p
  exact ⟨f, p3⟩
theorem C_off (ok : k_ok G l) {a N w k : Nat} {B : Nat × Nat} {h : k_H} {M : s_M} {x : Int32} (W : c_W a B h M N w) (hn : g_n M + 1 < 9000) (hlim0 : e_lim (g_E M)) (hpk : g_pk M) (h0 : g_p0 M) (hlim : s_inB x 0 2 = true → g_ps M (of_E M x) ∧ e_lim (of_E M x) ∧ g_sp M (of_E M x) ≤ k) :
    k_ct (tX11_off G l) [vR (some a), vI x] h (c_R a B (F_off M x) x_I (N + 1 + k) w) := by
  refine eX11_off ok.2 ?_
  cases hin : s_inB x 0 2 with
  | false =>
    refine bX11_off_0x (x_X11_requireIndex ok (in3_not hin)) ?_
    rintro _ rfl
    have hF : F_off M x = (M, 1, 0) := by unfold F_off; rw [if_pos hin]
    rw [hF]
    exact ⟨W_le (W_sk W) (by omega), rfl⟩
  | true =>
    obtain ⟨na, nn, nx, hx⟩ := s_na_m2 hin
    obtain ⟨g1, g2, g3⟩ := hlim hin
    have hF : F_off M x = (g_cm M (of_E M x), 0, nI (r_flt (of_lo x) (of_hi x + 1) (fun c => (r_val c (g_n M) (g_E M).2.1).isSome) (g_E M).1).length) := by unfold F_off; rw [if_neg (by rw [hin]; decide)]
    obtain ⟨hl1, hl2, hl3, hl4⟩ := s_hi_la na na_m6.2.2.2.2.2.2.2
    have ehi : of_hi x + 1 = s_hi (-2 - x) 10000 := by
      show s_la (-2 - x) 10000 + 1 = _
      rcases hl1 with e | e
      · exact e.symm
      · unfold s_hi at e ⊢
        rw [if_neg nn] at e ⊢
        have h9 := s_dg_lt na
        have h8 : s_dg 10000 = 0 := s_dg_none
        unfold s_la at e ⊢
        rw [if_neg nn] at e ⊢
        omega
    refine bX11_off_0 (c_X11_requireIndex ok hx) ?_
    rintro _ hh
    rw [hh]
    refine bX11_off_4 (c_X11_lowOf ok na na_m6.2.2.2.2.2.2.2) ?_
    rintro _ _ ⟨hh, rfl⟩
    rw [hh]
    refine bX11_off_14 (c_X11_highOf ok na na_m6.2.2.2.2.2.2.2) ?_
    rintro _ _ ⟨hh, rfl⟩
    rw [hh]
    obtain ⟨o14, f0, f1, f2, f3, f4, f5, o11⟩ := W_ob W
    refine bX11_off_25 o14 rfl (k_is_o o11) (W_list ok W (by omega) (by omega) hlim0) ?_
    rintro h1 _ ⟨rfl, W1, X, cap, x1, x2, -⟩
    have hlen : (X.map (fun x => x.2)).length = (r_flt (of_lo x) (of_hi x + 1) (fun c => (r_val c (g_n M) (g_E M).2.1).isSome) (g_E M).1).length := by
      have := congrArg List.length x2
      rw [List.length_map, List.length_map] at this
      rw [List.length_map, this, ehi]
      rfl
    refine bX11_off_37 (Or.inr ⟨rfl, _, _, x1⟩) (c_size ok x1) ?_
    rintro _ _ ⟨hh, rfl⟩
    rw [hh, hlen]
    obtain ⟨o14, f0, f1, f2, f3, f4, f5, o11⟩ := W_ob W1
    refine bX11_off_40 o14 rfl (k_is_o o11) (O_open ok W1 (by omega)) ?_
    rintro h2 ⟨O2, -⟩
    obtain ⟨o14, f0, f1, f2, f3, f4, f5, o11⟩ := O_ob O2
    have le1 : e_lim (e_clr (g_n M + 1) (s_lo (-2 - x) 10000) (s_hi (-2 - x) 10000) (g_E M)) := by
      rw [← ehi]
      exact e_lim_le g2 (e_le_put _ _ _ _)
    refine bX11_off_50 o14 rfl (k_is_o o11) (O_wipe ok O2 hl3 hl2 le1) ?_
    rintro h3 O3
    obtain ⟨o14, f0, f1, f2, f3, f4, f5, o11⟩ := O_ob O3
    refine bX11_off_60 o14 rfl (c_X11_codeOf_ ok na_m6.1 nx) ?_
    rintro _ _ ⟨hh, rfl⟩
    rw [hh]
    have eE : of_E M x = e_put (g_n M + 1) (s_cd (-6) x 10000) (s_apO 0 (-1000) (nI (g_n M + 1)) (r_val (s_cd (-6) x 10000) (g_n M + 1) (e_clr (g_n M + 1) (s_lo (-2 - x) 10000) (s_hi (-2 - x) 10000) (g_E M)).2.1)) (e_clr (g_n M + 1) (s_lo (-2 - x) 10000) (s_hi (-2 - x) 10000) (g_E M)) := by
      unfold of_E
      rw [ehi, ap_set]
      rfl
    refine bX11_off_71 (k_is_o o11) (O_alter ok O3 (s_cd_lt na_m6.1 nx na_m6.2.2.2.2.2.2.2) (by rw [← eE]; exact g2)) ?_
    rintro h4 ⟨O4, -⟩
    rw [← eE] at O4
    obtain ⟨o14, -⟩ := O_ob O4
    refine bX11_off_77 (k_is_o o14) (O_close ok O4 ?_ g2 hpk h0 g1) ?_
    · unfold of_E
      exact ex_trans (ex_clr _ _ _ _) (ex_put _ _ _ _)
    rintro h5 ⟨W5, -⟩
    exact bX11_off_81 (R_ok (W_le W5 (by omega)) hF)
theorem C_firstWork (ok : k_ok G l) {a N w : Nat} {B : Nat × Nat} {h : k_H} {M : s_M} {x : Int32} (W : c_W a B h M N w) (hlim0 : e_lim (g_E M)) :
    k_ctr (tX11_firstWork G l) [vR (some a), vI x] h (fun h' v => c_W a B h' M N w ∧ ((v = none ∧ (wk_list M x).head? = none) ∨ ∃ q y, v = some q ∧ (wk_list M x).head? = some y ∧ y.1 < 1331000000000 ∧ c_pin a h' y.1 q)) := by
  obtain ⟨o14, f0, f1, f2, f3, f4, f5, o11⟩ := W_ob W
  have n5 : s_na (-5) := na_m6.2.2.1
  have n0 : s_na 10000 := na_m6.2.2.2.2.2.2.2
  obtain ⟨hl1, hl2, hl3, hl4⟩ := s_hi_la n5 n0
  have ehi : s_la (-5) 10000 + 1 = s_hi (-5) 10000 := by decide
  refine k_ctr_of (eX11_firstWork ok.2 (bX11_firstWork_0 o14 rfl (c_X11_lowOf ok n5 n0) ?_))
  rintro _ _ ⟨hh, rfl⟩
  rw [hh]
  refine bX11_firstWork_12 (c_X11_highOf ok n5 n0) ?_
  rintro _ _ ⟨hh, rfl⟩
  rw [hh]
  refine bX11_firstWork_20 (k_is_o o11) (W_list ok W (by omega) (by omega) hlim0) ?_
  rintro h1 _ ⟨rfl, W1, X, cap, x1, x2, x3⟩
  refine bX11_firstWork_23 ?_
  have hXl : X.length ≤ 12000 := by
    have := congrArg List.length x2
    rw [List.length_map, List.length_map] at this
    rw [this]
    exact Nat.le_trans (List.length_filter_le _ _) hlim0.1
  have ewk : (wk_list M x).map (fun y => y.1) = ((X.map (fun y => y.1)).filter (fun c => decide (wk_hold M c = x))) := by
    rw [x2]
    unfold wk_list c_hl r_flt
    rw [ehi, List.filter_map, List.filter_filter]
    congr 1
    refine List.filter_congr fun y _ => ?_
    show (decide (s_lo (-5) 10000 ≤ y.1) && decide (y.1 < s_hi (-5) 10000) && ((rk_v M y.1).isSome && decide (wk_hold M y.1 = x))) = (decide (wk_hold M y.1 = x) && (decide (s_lo (-5) 10000 ≤ y.1) && decide (y.1 < s_hi (-5) 10000) && (r_val y.1 (g_n M) (g_E M).2.1).isSome))
    unfold rk_v
    generalize decide (s_lo (-5) 10000 ≤ y.1) = p1
    generalize decide (y.1 < s_hi (-5) 10000) = p2
    generalize decide (wk_hold M y.1 = x) = p3
    generalize (r_val y.1 (g_n M) (g_E M).2.1).isSome = p4
    cases p1 <;> cases p2 <;> cases p3 <;> cases p4 <;> rfl
  have key : ∀ (todo pre : List k_K2) (hh : k_H), X = pre ++ todo → (pre.map (fun y => y.1)).filter (fun c => decide (wk_hold M c = x)) = [] → c_W a B hh M N w → hh.1 (a + 4) = some (k_l (X.map (fun x => x.2)) cap) → (∀ y ∈ X, y.1 < 1331000000000 ∧ c_pin a hh y.1 y.2) →
      k_X (jX11_firstWork G l h) hh 26 [(0, vR (some a)), (1, vI x), (2, vR (some (a + 4))), (3, vI (nI pre.length))] [] (q_r (fun h' v => c_W a B h' M N w ∧ ((v = none ∧ (wk_list M x).head? = none) ∨ ∃ q y, v = some q ∧ (wk_list M x).head? = some y ∧ y.1 < 1331000000000 ∧ c_pin a h' y.1 q))) := by
    intro todo
    induction todo with
    | nil =>
      intro pre hh hp hf W2 e4 hX
      rw [List.append_nil] at hp
      have hpl : X.length = pre.length := by rw [hp]
      refine bX11_firstWork_26 (Or.inr ⟨rfl, _, _, e4⟩) (c_size ok e4) ?_
      rintro _ _ ⟨hh2, rfl⟩
      rw [hh2, List.length_map]
      refine bX11_firstWork_31 (fun _ => bX11_firstWork_73 ⟨_, rfl, W2, Or.inl ⟨rfl, ?_⟩⟩) (fun c => absurd (nI_le (Nat.le_of_eq hpl) (by omega)) c)
      rw [hp, hf] at ewk
      rw [List.map_eq_nil_iff.mp ewk]
      rfl
    | cons y todo ih =>
      intro pre hh hp hf W2 e4 hX
      have hlt : pre.length < X.length := by rw [hp, List.length_append, List.length_cons]; omega
      have hy : (X.map (fun x => x.2))[pre.length]? = some y.2 := by rw [hp]; simp
      have hym : y ∈ X := by rw [hp]; simp
      obtain ⟨y1, y2⟩ := hX y hym
      obtain ⟨f, oy⟩ := pin_o y2
      obtain ⟨o14, f0, f1, f2, f3, f4, f5, o11⟩ := W_ob W2
      refine bX11_firstWork_26 (Or.inr ⟨rfl, _, _, e4⟩) (c_size ok e4) ?_
      rintro _ _ ⟨hh2, rfl⟩
      rw [hh2, List.length_map]
      refine bX11_firstWork_31 (fun c => absurd c (nI_ge hlt (by omega))) (fun _ => ?_)
      refine bX11_firstWork_34 (Or.inr ⟨rfl, _, _, e4⟩) (c_get ok e4 hy) ?_
      rintro _ _ ⟨hh2, rfl⟩
      rw [hh2]
      refine bX11_firstWork_39 oy o14 rfl (c_X11_leaseOf ok oy y1) ?_
      rintro _ _ ⟨hh2, rfl⟩
      rw [hh2]
      have hcd := s_cd_lt na_m6.2.1 (s_no_na y.1 1) n0
      refine bX11_firstWork_54 (k_is_o o11) (W_value ok W2 (by omega)) ?_
      rintro h3 _ ⟨W3, rfl, pn, l4⟩
      obtain ⟨o14, f0, f1, f2, f3, f4, f5, o11⟩ := W_ob W3
      refine bX11_firstWork_57 (k_is_o o14) (c_X11_holderOf ok o14 o11) ?_
      rintro _ _ ⟨hh2, rfl⟩
      rw [hh2]
      have hold : s_hold (o_told (rk_v M (s_cd (-7) (s_no y.1 1) 10000))) (nI (g_n M)) = wk_hold M y.1 := rfl
      rw [hold]
      refine bX11_firstWork_60 (fun c => ?_) (fun c => ?_)
      · refine bX11_firstWork_67 ?_
        rw [nI_1]
        have := ih (pre ++ [y]) h3 (by rw [hp]; simp) (by rw [List.map_append, List.filter_append, hf]; simp [c]) W3 (l4 _ _ e4) (fun z hz => ⟨(hX z hz).1, pn _ _ (hX z hz).2⟩)
        rw [List.length_append, List.length_singleton] at this
        exact this
      · have hh9 : ((wk_list M x).map (fun y => y.1)).head? = some y.1 := by
          rw [ewk, hp, List.map_append, List.filter_append, hf, List.nil_append, List.map_cons, List.filter_cons_of_pos (by simp [c])]
          rfl
        rw [List.head?_map] at hh9
        cases hg : (wk_list M x).head? with
        | none => rw [hg] at hh9; cases hh9
        | some g =>
          rw [hg] at hh9
          have eg : g.1 = y.1 := by simpa using hh9
          exact bX11_firstWork_64 ⟨_, rfl, W3, Or.inr ⟨y.2, g, rfl, rfl, by rw [eg]; exact y1, by rw [eg]; exact pn _ _ y2⟩⟩
  exact key X [] h1 rfl rfl W1 x1 x3
end COC
end
section
/-! THE CLASS TAKES AND FINISHES WORK, AND BRINGS BACK -/
section CTK
variable {G : k_G} {l : Launch}
theorem O_lease (ok : k_ok G l) {a c q : Nat} {h : k_H} (p : c_pin a h c q) (hc : c < 1331000000000) : k_ctj (tX11_leaseOf G l) [vR (some q)] h (fun h' v => h' = h ∧ v = lN (s_cd (-7) (s_no c 1) 10000)) := by
  obtain ⟨f, o⟩ := pin_o p
  exact c_X11_leaseOf ok o hc
theorem in3_yes {x : Int32} (h : s_inB x 0 2 = true) : 0 ≤ x ∧ x < 3 := (s_na_m2 h).2.2.2
theorem C_take (ok : k_ok G l) {a N w k : Nat} {B : Nat × Nat} {h : k_H} {M : s_M} {x : Int32} (W : c_W a B h M N w) (hn : g_n M + 1 < 9000) (hlim0 : e_lim (g_E M)) (hpk : g_pk M) (h0 : g_p0 M) (hlim : ∀ y, (wk_list M (-2147483648)).head? = some y → g_ps M (wk_tE M x y.1) ∧ e_lim (wk_tE M x y.1) ∧ g_sp M (wk_tE M x y.1) ≤ k ∧ r_val y.1 (g_n M + 1) (wk_tE M x y.1).2.1 = rk_v M y.1) :
    k_ct (tX11_take G l) [vR (some a), vI x] h (c_R a B (F_take M x) x_I (N + 1 + k) w) := by
  refine eX11_take ok.2 ?_
  cases hin : s_inB x 0 2 with
  | false =>
    refine bX11_take_0x (x_X11_requireWorker ok (in3_not hin)) ?_
    rintro _ rfl
    have hF : F_take M x = (M, 1, 0) := by unfold F_take; rw [if_pos hin]
    rw [hF]
    exact ⟨W_le (W_sk W) (by omega), rfl⟩
  | true =>
    obtain ⟨o14, -⟩ := W_ob W
    refine bX11_take_0 (c_X11_requireWorker ok (in3_yes hin)) ?_
    rintro _ hh
    rw [hh]
    refine bX11_take_4 (k_is_o o14) (C_firstWork ok W hlim0) ?_
    rintro h1 _ ⟨W1, ⟨rfl, hw⟩ | ⟨q, y, rfl, hw, hy, pn⟩⟩
    · have hF : F_take M x = (M, 0, -2147483648) := by unfold F_take; rw [if_neg (by rw [hin]; decide), hw]
      exact bX11_take_10 (fun _ => bX11_take_15 (R_ok (W_le W1 (by omega)) hF)) (fun a e => by cases e)
    · have hF : F_take M x = (g_cm M (wk_tE M x y.1), 0, o_told (rk_v M y.1)) := by unfold F_take; rw [if_neg (by rw [hin]; decide), hw]
      obtain ⟨g1, g2, g3, g4⟩ := hlim y hw
      refine bX11_take_10 (fun e => by cases e) (fun a' _ => ?_)
      obtain ⟨o14, f0, f1, f2, f3, f4, f5, o11⟩ := W_ob W1
      refine bX11_take_18 o14 rfl (k_is_o o11) (O_open ok W1 (by omega)) ?_
      rintro h2 ⟨O2, pn2⟩
      obtain ⟨o14, f0, f1, f2, f3, f4, f5, o11⟩ := O_ob O2
      refine bX11_take_26 o14 rfl (O_lease ok (pn2 _ _ pn) hy) ?_
      rintro _ _ ⟨hh, rfl⟩
      rw [hh]
      have eE : wk_tE M x y.1 = e_put (g_n M + 1) (s_cd (-7) (s_no y.1 1) 10000) (s_apO 0 (10000 * x + nI (g_n M + 1) + 10) (nI (g_n M + 1)) (r_val (s_cd (-7) (s_no y.1 1) 10000) (g_n M + 1) (g_E M).2.1)) (g_E M) := by
        rw [ap_set]; rfl
      refine bX11_take_35 o14 rfl o11 rfl (k_is_o o11) (O_alter ok O2 (s_cd_lt na_m6.2.1 (s_no_na y.1 1) na_m6.2.2.2.2.2.2.2) (by rw [← eE]; exact g2)) ?_
      rintro h3 ⟨O3, pn3⟩
      rw [← eE] at O3
      obtain ⟨o14, -⟩ := O_ob O3
      refine bX11_take_54 (k_is_o o14) (O_close ok O3 (ex_put _ _ _ _) g2 hpk h0 g1) ?_
      rintro h4 ⟨W4, pn4⟩
      obtain ⟨o14, f0, f1, f2, f3, f4, f5, o11⟩ := W_ob W4
      obtain ⟨f, o7⟩ := pin_o (pn4 _ _ (pn3 _ _ (by omega) (pn2 _ _ pn)))
      refine bX11_take_58 o14 rfl o7 rfl (k_is_o o11) (W_value ok W4 (by omega)) ?_
      rintro h5 _ ⟨W5, rfl, -⟩
      have ev : rk_v (g_cm M (wk_tE M x y.1)) y.1 = rk_v M y.1 := g4
      rw [ev]
      exact bX11_take_69 (R_ok (W_le W5 (by omega)) hF)
theorem C_finish (ok : k_ok G l) {a N w k : Nat} {B : Nat × Nat} {h : k_H} {M : s_M} {x : Int32} (W : c_W a B h M N w) (hn : g_n M + 1 < 9000) (hlim0 : e_lim (g_E M)) (hpk : g_pk M) (h0 : g_p0 M) (hlim : ∀ y, (wk_list M x).head? = some y → g_ps M (wk_fE M y.1) ∧ e_lim (wk_fE M y.1) ∧ g_sp M (wk_fE M y.1) ≤ k ∧ s_cd (-5) (s_no y.1 1) 10000 = y.1) :
    k_ct (tX11_finish G l) [vR (some a), vI x] h (c_R a B (F_finish M x) x_I (N + 1 + k) w) := by
  refine eX11_finish ok.2 ?_
  cases hin : s_inB x 0 2 with
  | false =>
    refine bX11_finish_0x (x_X11_requireWorker ok (in3_not hin)) ?_
    rintro _ rfl
    have hF : F_finish M x = (M, 1, 0) := by unfold F_finish; rw [if_pos hin]
    rw [hF]
    exact ⟨W_le (W_sk W) (by omega), rfl⟩
  | true =>
    obtain ⟨o14, -⟩ := W_ob W
    refine bX11_finish_0 (c_X11_requireWorker ok (in3_yes hin)) ?_
    rintro _ hh
    rw [hh]
    refine bX11_finish_4 (k_is_o o14) (C_firstWork ok W hlim0) ?_
    rintro h1 _ ⟨W1, ⟨rfl, hw⟩ | ⟨q, y, rfl, hw, hy, pn⟩⟩
    · have hF : F_finish M x = (M, 0, -2147483648) := by unfold F_finish; rw [if_neg (by rw [hin]; decide), hw]
      exact bX11_finish_9 (fun _ => bX11_finish_14 (R_ok (W_le W1 (by omega)) hF)) (fun a e => by cases e)
    · have hF : F_finish M x = (g_cm M (wk_fE M y.1), 0, o_told (rk_v M y.1)) := by unfold F_finish; rw [if_neg (by rw [hin]; decide), hw]
      obtain ⟨g1, g2, g3, g4⟩ := hlim y hw
      refine bX11_finish_9 (fun e => by cases e) (fun a' _ => ?_)
      obtain ⟨o14, f0, f1, f2, f3, f4, f5, o11⟩ := W_ob W1
      obtain ⟨f, o7⟩ := pin_o pn
      refine bX11_finish_17 o14 rfl o7 rfl (k_is_o o11) (W_value ok W1 (by omega)) ?_
      rintro h1 _ ⟨W1, rfl, pn1, -⟩
      obtain ⟨o14, f0, f1, f2, f3, f4, f5, o11⟩ := W_ob W1
      refine bX11_finish_28 o14 rfl (k_is_o o11) (O_open ok W1 (by omega)) ?_
      rintro h2 ⟨O2, pn2⟩
      obtain ⟨o14, f0, f1, f2, f3, f4, f5, o11⟩ := O_ob O2
      have p2 := pn2 _ _ (pn1 _ _ pn)
      obtain ⟨f, o7⟩ := pin_o p2
      have e1 : ∀ (c : Nat) (E : e_S), e_put (g_n M + 1) c (s_apO 1 0 (nI (g_n M + 1)) (r_val c (g_n M + 1) E.2.1)) E = e_put (g_n M + 1) c none E := fun c E => by
        unfold s_apO
        rw [if_pos rfl]
      have eE : wk_fE M y.1 = e_put (g_n M + 1) (s_cd (-7) (s_no y.1 1) 10000) none (e_put (g_n M + 1) y.1 none (g_E M)) := by
        unfold wk_fE
        rw [g4]
      have l1 : e_lim (e_put (g_n M + 1) y.1 none (g_E M)) := by
        rw [eE] at g2
        exact e_lim_le g2 (e_le_put _ _ _ _)
      refine bX11_finish_37 o14 rfl o7 rfl (k_is_o o11) (O_alter ok O2 hy (by rw [e1]; exact l1)) ?_
      rintro h3 ⟨O3, pn3⟩
      rw [e1] at O3
      have p3 := pn3 _ _ (by omega) p2
      obtain ⟨o14, f0, f1, f2, f3, f4, f5, o11⟩ := O_ob O3
      refine bX11_finish_50 o14 rfl (O_lease ok p3 hy) ?_
      rintro _ _ ⟨hh, rfl⟩
      rw [hh]
      refine bX11_finish_59 (k_is_o o11) (O_alter ok O3 (s_cd_lt na_m6.2.1 (s_no_na y.1 1) na_m6.2.2.2.2.2.2.2) (by rw [e1, ← eE]; exact g2)) ?_
      rintro h4 ⟨O4, -⟩
      rw [e1, ← eE] at O4
      obtain ⟨o14, -⟩ := O_ob O4
      refine bX11_finish_63 (k_is_o o14) (O_close ok O4 (ex_trans (ex_put _ _ _ _) (ex_put _ _ _ _)) g2 hpk h0 g1) ?_
      rintro h5 ⟨W5, -⟩
      exact bX11_finish_67 (R_ok (W_le W5 (by omega)) hF)
end CTK
end
section
/-! THE CLASS BRINGS BACK; marks, watches, parts -/
theorem el_wat {h : k_H} {a : Nat} {fs : List k_V} (ho : h.1 a = some (k_o 13 fs)) : k_el h a := ⟨13, k_is_o ho, k_to rfl (by decide)⟩
theorem inB_k {x : Int32} {k : Nat} (hk : k < 2 ^ 20) : s_inB x 0 (nI k - 1) = (decide (¬ x < 0) && decide (x < nI k)) := by
  unfold s_inB
  by_cases c : x < 0
  · rw [decide_eq_false (show ¬ ¬ x < 0 from fun z => z c), Bool.false_and, Bool.false_and]
  · rw [decide_eq_true c, Bool.true_and, Bool.true_and]
    have hx : 0 ≤ x.toInt := by
      have := Int32.le_iff_toInt_le.mp (Int32.not_lt.mp c)
      simpa using this
    have hj := nI_ofN hx
    have hlt : x.toInt.toNat < 2 ^ 31 := by have := Int32.toInt_lt x; omega
    rw [decide_eq_decide]
    by_cases k0 : k = 0
    · subst k0
      constructor
      · intro h
        exact absurd (show (nI 0 - 1 : Int32) < x from by
          rw [Int32.lt_iff_toInt_lt]
          have : (nI 0 - 1 : Int32).toInt = -1 := by decide
          omega) h
      · intro h
        exact absurd h c
    · have e1 : nI k - 1 = nI (k - 1) := nI_sub (b := 1) (by omega)
      rw [e1]
      generalize x.toInt.toNat = j at hj hlt
      rw [hj, nI_ltI hlt (by omega), nI_ltI (by omega) hlt]
      omega
section CWT
variable {G : k_G} {l : Launch}
theorem W_parts {a N w : Nat} {B : Nat × Nat} {h : k_H} {M : s_M} (W : c_W a B h M N w) : ∃ (PS : List k_PT) (cap : Nat), h.1 (a + 6) = some (k_o 9 [vR (some (a + 7))]) ∧ r_ps h (a + 7) cap PS ∧ PS.map k_pr = g_PT M ∧ p_ho (g_V M) (g_V M).length PS := by
  obtain ⟨Q, S, PS, s, r, p, co⟩ := W
  obtain ⟨p1, ⟨cap, p2⟩, -⟩ := r.2.1
  exact ⟨PS, cap, p1, p2, p.1, p.2⟩
theorem C_parts (ok : k_ok G l) {a N w : Nat} {B : Nat × Nat} {h : k_H} {M : s_M} (W : c_W a B h M N w) : k_ct (tX11_parts G l) [vR (some a)] h (c_R a B (F_parts M) x_3 N w) := by
  obtain ⟨o14, -⟩ := W_ob W
  obtain ⟨PS, cap, p1, p2, p3, -⟩ := W_parts W
  refine eX11_parts ok.2 (bX11_parts_0 o14 rfl p1 rfl (Or.inr ⟨rfl, _, _, p2.1⟩) (c_size ok p2.1) ?_)
  rintro _ _ ⟨hh, rfl⟩
  rw [hh, List.length_map]
  refine bX11_parts_10 (R_ok W ?_)
  unfold F_parts
  rw [← p3, List.length_map]
theorem p_ho_at {V : List Nat} {e : Nat} : ∀ {PS : List k_PT} {i : Nat} {x : k_PT}, p_ho V e PS → PS[i]? = some x → x.2.2.2 = (match PS.drop (i + 1) with | [] => e | y :: _ => p_lt y.2.1 V) - p_lt x.2.1 V := by
  intro PS
  induction PS with
  | nil => intro i x h hx; cases hx
  | cons y t ih =>
    intro i x h hx
    cases i with
    | zero =>
      have : y = x := by simpa using hx
      subst this
      rw [h.1]
      cases t <;> rfl
    | succ i =>
      have : t[i]? = some x := by simpa using hx
      exact ih h.2 this
theorem C_part (ok : k_ok G l) {a N w : Nat} {B : Nat × Nat} {h : k_H} {M : s_M} {x y : Int32} (W : c_W a B h M N w) (hpt : (g_PT M).length ≤ 4096) (hlo : ∀ p ∈ g_PT M, p.1 < 1331000000000) : k_ct (tX11_part G l) [vR (some a), vI x, vI y] h (c_R a B (F_part M x y) x_3 (N + 1) w) := by
  obtain ⟨o14, -⟩ := W_ob W
  obtain ⟨PS, cap, p1, p2, p3, p4⟩ := W_parts W
  have hPl : PS.length = (g_PT M).length := by rw [← p3, List.length_map]
  have hin := inB_k (x := x) (k := (g_PT M).length) (by omega)
  have bad : s_inB x 0 (nI (g_PT M).length - 1) = false → k_X (jX11_part G l h) h 18 [] [] (c_R a B (F_part M x y) x_3 (N + 1) w) := fun hc =>
    bX11_part_18 (R_x (k := 1) W (by unfold F_part; rw [if_pos hc]) (by decide))
  refine eX11_part ok.2 (bX11_part_0 (fun c => bad ?_) (fun c1 => bX11_part_4 o14 rfl p1 rfl (Or.inr ⟨rfl, _, _, p2.1⟩) (c_size ok p2.1) ?_))
  · rw [hin, decide_eq_false (show ¬ ¬ x < 0 from fun z => z c), Bool.false_and]
  rintro _ _ ⟨hh, rfl⟩
  rw [hh, List.length_map, hPl]
  refine bX11_part_15 (fun c2 => ?_) (fun c2 => bad ?_)
  · have hi : s_inB x 0 (nI (g_PT M).length - 1) = true := by rw [hin, decide_eq_true c1, decide_eq_true c2]; rfl
    have bad2 : s_inB y 0 4 = false → k_X (jX11_part G l h) h 37 [] [] (c_R a B (F_part M x y) x_3 (N + 1) w) := fun hc =>
      bX11_part_37 (R_x (k := 2) W (by unfold F_part; rw [if_neg (by rw [hi]; decide), if_pos hc]) (by decide))
    refine bX11_part_28 (fun c => bad2 ?_) (fun c3 => bX11_part_32 (fun c4 => ?_) (fun c => bad2 ?_))
    · unfold s_inB; rw [decide_eq_false (by simpa using c), Bool.false_and]
    · have hy : s_inB y 0 4 = true := by unfold s_inB; rw [decide_eq_true c3, decide_eq_true (Int32.not_lt.mpr c4)]; rfl
      obtain ⟨j, hj, rfl, ht⟩ := s_in_ (by omega) hi
      obtain ⟨p, hp⟩ : ∃ p, PS[j]? = some p := ⟨_, List.getElem?_eq_getElem (by omega)⟩
      have hp1 : (PS.map (fun x => x.1))[j]? = some p.1 := by rw [List.getElem?_map, hp]; rfl
      have hp2 : (g_PT M)[j]? = some (k_pr p) := by rw [← p3, List.getElem?_map, hp]; rfl
      obtain ⟨u1, u2, u3⟩ := p2.2.1 p (List.mem_of_getElem? hp)
      have hpl := hlo _ (List.mem_of_getElem? hp2)
      have hF : ∀ v, (if y = 0 then p.2.2.1 else if y = 1 then nI (p_end (m_V (g_E M).1 (g_n M) (g_E M).2.1) ((g_PT M).drop (j + 1)) - p_lt p.2.1 (m_V (g_E M).1 (g_n M) (g_E M).2.1)) else if nI j = 0 then -2147483648 else s_no p.2.1 (s_pl (y - 2))) = v → F_part M (nI j) y = (M, 0, v) := fun v hv => by
        unfold F_part
        rw [if_neg (by rw [hi]; decide), if_neg (by rw [hy]; decide), ht, hp2]
        exact congrArg (fun v => (M, 0, v)) hv
      have hheld : p.2.2.2 = p_end (m_V (g_E M).1 (g_n M) (g_E M).2.1) ((g_PT M).drop (j + 1)) - p_lt p.2.1 (m_V (g_E M).1 (g_n M) (g_E M).2.1) := by
        rw [p_ho_at p4 hp, ← p3, ← List.map_drop]
        show (match PS.drop (j + 1) with | [] => (g_V M).length | y :: _ => p_lt y.2.1 (g_V M)) - _ = _
        cases PS.drop (j + 1) <;> rfl
      have W1 := W_le W (Nat.le_succ N)
      refine bX11_part_47 o14 rfl p1 rfl (Or.inr ⟨rfl, _, _, p2.1⟩) (c_get ok p2.1 hp1) ?_
      rintro _ _ ⟨hh, rfl⟩
      rw [hh]
      refine bX11_part_58 u1 (fun d0 => bX11_part_71 (fun d1 => bX11_part_81 (fun d2 => ?_) (fun d2 => ?_)) (fun d1 => ?_)) (fun d0 => ?_)
      · refine bX11_part_90 u1 rfl (c_X11_numberOf ok hpl) ?_
        rintro _ _ ⟨hh, rfl⟩
        rw [hh]
        exact bX11_part_100 (R_ok W1 (hF _ (by rw [if_neg d0, if_neg d1, if_neg d2])))
      · exact bX11_part_85 (bX11_part_100 (R_ok W1 (hF _ (by rw [if_neg d0, if_neg d1, if_pos d2]))))
      · refine bX11_part_76 u1 rfl (R_ok W1 (hF _ (by rw [if_neg d0, if_pos d1, hheld])))
      · refine bX11_part_66 u1 rfl (R_ok W1 (hF _ (by rw [if_pos d0])))
    · unfold s_inB; rw [decide_eq_false (show ¬ ¬ (4 : Int32) < y from fun z => c (Int32.not_lt.mp z)), Bool.and_false]
  · rw [hin, decide_eq_false c2, Bool.and_false]
theorem C_fired (ok : k_ok G l) {a N w : Nat} {B : Nat × Nat} {h : k_H} {M : s_M} {x : Int32} (W : c_W a B h M N w) (hwl : (g_WT M).length ≤ 20) : k_ct (tX11_fired G l) [vR (some a), vI x] h (c_R a B (F_fired M x) x_I (N + 1) w) := by
  obtain ⟨Q, S, PS, s, r, p, co⟩ := id W
  obtain ⟨r1, r2, r3, r4, r5, r6, WA, capW, w1, ⟨w2, w3, w4⟩, w5⟩ := id r
  have hin := inB_k (x := x) (k := (g_WT M).length) (by omega)
  have bad : s_inB x 0 (nI (g_WT M).length - 1) = false → k_X (jX11_fired G l h) h 15 [] [] (c_R a B (F_fired M x) x_I (N + 1) w) := fun hc =>
    bX11_fired_15 (R_x (k := 1) W (by unfold F_fired; rw [if_pos hc]) (by decide))
  refine eX11_fired ok.2 (bX11_fired_0 (fun c => bad ?_) (fun c1 => bX11_fired_4 r3 rfl (Or.inr ⟨rfl, _, _, w1⟩) (c_size ok w1) ?_))
  · rw [hin, decide_eq_false (show ¬ ¬ x < 0 from fun z => z c), Bool.false_and]
  rintro _ _ ⟨hh, rfl⟩
  rw [hh, w2]
  refine bX11_fired_12 (fun c2 => ?_) (fun c2 => bad (by rw [hin, decide_eq_false c2, Bool.and_false]))
  have hi : s_inB x 0 (nI (g_WT M).length - 1) = true := by rw [hin, decide_eq_true c1, decide_eq_true c2]; rfl
  obtain ⟨j, hj, rfl, ht⟩ := s_in_ (by omega) hi
  obtain ⟨b, hb⟩ : ∃ b, WA[j]? = some b := ⟨_, List.getElem?_eq_getElem (by omega)⟩
  obtain ⟨x, hx⟩ : ∃ x, (g_WT M)[j]? = some x := ⟨_, List.getElem?_eq_getElem (by omega)⟩
  obtain ⟨q, hq⟩ : ∃ q, Q[j]? = some q := ⟨_, List.getElem?_eq_getElem (by omega)⟩
  refine bX11_fired_26 r3 rfl (Or.inr ⟨rfl, _, _, w1⟩) (c_get ok w1 hb) ?_
  rintro _ _ ⟨hh, rfl⟩
  rw [hh]
  refine bX11_fired_34 (w5 j b x q hb hx hq).2 rfl (R_ok (W_le W (Nat.le_succ _)) ?_)
  unfold F_fired
  rw [if_neg (by rw [hi]; decide), ht, hx]
theorem C_mark (ok : k_ok G l) {a N w : Nat} {B : Nat × Nat} {h : k_H} {M : s_M} (W : c_W a B h M N w) (hmk : (g_MK M).length ≤ 10) : k_ct (tX11_mark G l) [vR (some a)] h (c_R a B (F_mark M) (fun _ => x_IS) (N + 1) w) := by
  obtain ⟨Q, S, PS, s, r, p, co⟩ := id W
  obtain ⟨r1, r2, r3, r4, ⟨f, k1, k2⟩, r6, r7⟩ := id r
  obtain ⟨f0, f1, f2, f3, f4, f5, o11⟩ := sE_obj s
  refine eX11_mark ok.2 (bX11_mark_0 r3 rfl (fun c => absurd c (fun z => ?_)) (fun _ => bX11_mark_7 r3 rfl rfl k1 (fun c => ?_) (fun c => ?_)))
  · have := (nI_ltI (a := (g_MK M).length) (b := 0) (by omega) (by omega)).mp z
    omega
  · have hlt := (nI_ltI (by omega) (by omega)).mp c
    refine bX11_mark_30 r3 rfl rfl rfl o11 rfl k1 (nI_in hlt (by omega)) ?_
    rw [nI_clamp (by omega)]
    generalize hg : k_up h (a + 15) _ = h1
    have e15 : h1.1 (a + 15) = some (k_i 10 (va_up f (g_MK M).length (nI (g_n M)))) := by rw [← hg]; exact k_up_self _ _ _
    have e14 : h1.1 a = some (k_o 14 [vR (some (a + 1)), vR (some (a + 6)), vR (some (a + 10)), vR (some (a + 11)), vR (some (a + 12)), vR (some (a + 13)), vR (some (a + 14)), vR (some (a + 15)), vI (nI (g_MK M).length), vI (nI (g_gen M)), vI (nI (g_los M)), vI (g_why M), vI (nI ((g_DS M).2 - 1))]) := by
      rw [← hg, k_up_ne _ _ (by omega)]; exact r3
    refine bX11_mark_46 e14 rfl rfl ?_
    rw [nI_1]
    generalize hg2 : k_up h1 a _ = h2
    have o2 : c_ob a h2 (g_mks M (g_MK M ++ [g_n M])) := by
      have e : (g_MK (g_mks M (g_MK M ++ [g_n M]))).length = (g_MK M).length + 1 := by
        show (g_MK M ++ [g_n M]).length = _
        rw [List.length_append, List.length_singleton]
      unfold c_ob
      rw [e, ← hg2]
      exact k_up_self _ _ _
    have m : k_mo a [] (fun q => q = a ∨ q = a + 15) 0 h h2 := by
      have m1 : k_mo a [] (fun q => q = a ∨ q = a + 15) 0 h1 h2 := by rw [← hg2]; exact mv_o e14 (Or.inr (Or.inl rfl))
      have ek : ∀ q, kcp (h1.1 q) = kcp (h.1 q) := fun q => by
        by_cases e : q = a + 15
        · rw [e, e15, k1]; rfl
        · rw [← hg, k_up_ne _ _ e]
      have m0 : k_mo a [] (fun q => q = a ∨ q = a + 15) 0 h h1 := by
        refine ⟨fun q c hq hA _ => ?_, fun wf => ?_, ?_, ?_, ?_, fun i hi hb => ?_⟩
        · rw [← hg, k_up_ne _ _ (fun z => hA (Or.inr z))]; exact hq
        · rw [← hg]; exact wf_up wf k1
        · rw [← hg]; exact Nat.le_refl _
        · have e1 : kT kg1 a h1 = kT kg1 a h := kT_eq (fun i _ => ek _)
          have e2 : h1.2.1 = h.2.1 := by rw [← hg]; rfl
          omega
        · have e1 : kT kg2 a h1 = kT kg2 a h := kT_eq (fun i _ => ek _)
          have e2 : h1.2.2 = h.2.2 := by rw [← hg]; rfl
          omega
        · rw [ek]; exact hb
      exact mv_mono (mv_trans m0 m1) (fun _ h => h) (fun _ h => h) (Nat.le_refl _)
    have nO : ∀ q ci fs, h.1 q = some (k_o ci fs) → ci ≠ 14 → ¬ (q = a ∨ q = a + 15) := fun q ci fs hq hc z => by
      rcases z with z | z
      · rw [z, r3] at hq; cases hq; exact hc rfl
      · rw [z, k1] at hq; cases hq
    have s2 := sE_fr s m (by simp) (fun i h1 h2 z => by omega) (fun q ci fs hq hc => nO q ci fs hq (by rcases hc with e | e | e <;> rw [e] <;> decide))
    have q2 : c_rs a h2 (g_mks M (g_MK M ++ [g_n M])) Q w PS := by
      refine ⟨TX_fr r1 m (by simp) (fun q ci fs hq hc => nO q ci fs hq (by rcases hc with e | e <;> rw [e] <;> decide)) (fun i h1 h2 z => by omega), pa_fr r2 m (by simp) ⟨by omega, by omega⟩ (fun q fs hq => nO q 8 fs hq (by decide)), o2, cl_fr r4 m.1 (by simp) ⟨by omega, by omega, by omega⟩, ⟨_, by rw [← hg2, k_up_ne _ _ (by omega)]; exact e15, fun i v hv => ?_⟩, dr_fr r6 m.1 (by simp) (by omega) (fun q fs hq => nO q 5 fs hq (by decide)), wa_fr r7 m.1 (by simp) (by omega) (fun q fs hq => nO q 13 fs hq (by decide))⟩
      have hv' : (g_MK M ++ [g_n M])[i]? = some v := hv
      by_cases e : i < (g_MK M).length
      · rw [List.getElem?_append_left e] at hv'
        show va_up f (g_MK M).length (nI (g_n M)) i = nI v
        unfold va_up
        rw [if_neg (by omega)]
        exact k2 i v hv'
      · have ei : i = (g_MK M).length := by
          have := (List.getElem?_eq_some_iff.mp hv').1
          simp at this; omega
        subst ei
        simp at hv'
        subst hv'
        show va_up f (g_MK M).length (nI (g_n M)) (g_MK M).length = _
        unfold va_up
        rw [if_pos rfl]
    have W2 : c_W a B h2 (g_mks M (g_MK M ++ [g_n M])) (N + 1) w := ⟨Q, S, PS, s2, q2, p, co_le (co_mo co m) (by omega)⟩
    refine bX11_mark_56 o2 rfl (R_ok W2 ?_)
    unfold F_mark
    rw [if_neg (by omega)]
    have e : (g_MK (g_mks M (g_MK M ++ [g_n M]))).length = (g_MK M).length + 1 := by
      show (g_MK M ++ [g_n M]).length = _
      rw [List.length_append, List.length_singleton]
    rw [e]
    exact congrArg (fun v => (g_mks M (g_MK M ++ [g_n M]), 0, v)) (nI_sub (a := (g_MK M).length + 1) (b := 1) (by omega)).symm
  · have : (g_MK M).length = 10 := by
      by_cases e : (g_MK M).length < 10
      · exact absurd ((nI_ltI (by omega) (by omega)).mpr e) c
      · omega
    exact bX11_mark_19 (R_x (k := 1) (X := fun _ => x_IS) W (by unfold F_mark; rw [if_pos this]) (by decide))
end CWT
end
section
/-! THE CLASS BRINGS BACK, WATCHES, RANKS -/
theorem sE_adv {a n m c S : Nat} {h : k_H} {E : e_S} {Q : List k_K2} (s : c_sE a h E n Q S) (hnm : n ≤ m) : r_val c m E.2.1 = r_val c n E.2.1 := by
  obtain ⟨KS, L, WS, z, st, rE, q, e⟩ := s
  obtain ⟨cK, cW, cH, xs, ka, -, -, ⟨g1, g2, g3⟩, -⟩ := st
  rw [← rE.1.1, ← rE.1.1, r_val_adv g1 hnm]
theorem bb_eq {a N w v : Nat} {B : Nat × Nat} {h : k_H} {M : s_M} (W : c_W a B h M N w) : bb_F (g_E M) (g_n M + 1) v = bb_E M v := by
  obtain ⟨Q, S, PS, s, -⟩ := W
  unfold bb_F bb_E bb_list
  congr 1
  refine List.filter_congr fun y _ => ?_
  unfold bb_oth
  rw [sE_adv s (Nat.le_succ _)]
theorem ex_foldp (n : Nat) (f : Nat → Option Int32) : ∀ (X : List k_K2) (E : e_S), e_ex n E (X.foldl (fun E y => e_put (n + 1) y.1 (f y.1) E) E) :=
  ex_fold _ (fun E x => ex_put n x.1 (f x.1) E)
section CBB
variable {G : k_G} {l : Launch}
theorem C_bringBack (ok : k_ok G l) {a N w k : Nat} {B : Nat × Nat} {h : k_H} {M : s_M} {x : Int32} (W : c_W a B h M N w) (hmk : (g_MK M).length ≤ 10) (hv : ∀ v ∈ g_MK M, v ≤ g_n M) (hlim0 : e_lim (g_E M)) (hn : g_n M + 1 < 9000) (hpk : g_pk M) (h0 : g_p0 M) (hlim : ∀ v ∈ g_MK M, 0 < (bb_list M v).length → g_ps M (bb_E M v) ∧ e_lim (bb_E M v) ∧ g_sp M (bb_E M v) ≤ k) :
    k_ct (tX11_bringBack G l) [vR (some a), vI x] h (c_R a B (F_bringBack M x) x_I (N + 1 + k) w) := by
  obtain ⟨Q, S, PS, s, r, p, co⟩ := id W
  obtain ⟨r1, r2, r3, r4, ⟨f, k1, k2⟩, r6, r7⟩ := id r
  obtain ⟨f0, f1, f2, f3, f4, f5, o11⟩ := sE_obj s
  have hin := inB_k (x := x) (k := (g_MK M).length) (by omega)
  have bad : s_inB x 0 (nI (g_MK M).length - 1) = false → k_X (jX11_bringBack G l h) h 21 [] [] (c_R a B (F_bringBack M x) x_I (N + 1 + k) w) := fun hc => by
    refine bX11_bringBack_21 ?_
    have hF : F_bringBack M x = (M, 1, 0) := by unfold F_bringBack; rw [if_pos hc]
    rw [hF]
    exact ⟨W_le (W_sk W) (by omega), rfl⟩
  refine eX11_bringBack ok.2 (bX11_bringBack_0 (fun c => bad ?_) (fun c1 => bX11_bringBack_4 r3 rfl (fun c => bad ?_) (fun c2 => bX11_bringBack_12 r3 rfl k1 (fun c3 => ?_) (fun c3 => bad ?_))))
  · rw [hin, decide_eq_false (show ¬ ¬ x < 0 from fun z => z c), Bool.false_and]
  · rw [hin, decide_eq_false (show ¬ x < nI (g_MK M).length from Int32.not_lt.mpr c), Bool.and_false]
  · have hi : s_inB x 0 (nI (g_MK M).length - 1) = true := by rw [hin, decide_eq_true c1, decide_eq_true (Int32.not_le.mp c2)]; rfl
    obtain ⟨j, hj, rfl, ht⟩ := s_in_ (by omega) hi
    obtain ⟨v, hv1⟩ : ∃ v, (g_MK M)[j]? = some v := ⟨_, List.getElem?_eq_getElem hj⟩
    have hvm := List.mem_of_getElem? hv1
    have hvn := hv v hvm
    have hn9 := (sE_n s).1
    have ef := k2 j v hv1
    have hgd : (g_MK M).getD j 0 = v := by rw [List.getD_eq_getElem?_getD, hv1]; rfl
    have hF : F_bringBack M (nI j) = (if 0 < (bb_list M v).length then g_cm M (bb_E M v) else M, 0, nI (bb_list M v).length) := by
      unfold F_bringBack
      rw [if_neg (by rw [hi]; decide), ht, hgd]
    have hbl : (bb_list M v).length ≤ 12000 := Nat.le_trans (List.length_filter_le _ _) hlim0.1
    have hcd : k_cti (tX8_countDiffering G l) [vR (some (a + 1)), vI (f (nI j).toNatClampNeg)] h (fun h' w => h' = h ∧ w = nI (bb_list M v).length) := by
      rw [nI_clamp (by omega), ef]
      exact c_E_countDiffering ok s (by omega)
    refine bX11_bringBack_32 r3 rfl k1 (nI_in (by omega) (by omega)) rfl (k_is_o o11) hcd ?_
    rintro _ _ ⟨hh, rfl⟩
    rw [hh, nI_clamp (by omega), ef]
    refine bX11_bringBack_47 (fun c4 => ?_) (fun c4 => ?_)
    · have : (bb_list M v).length ≤ 0 := (nI_leI (b := 0) (by omega) (by omega)).mp c4
      exact bX11_bringBack_72 (R_ok (W_le W (by omega)) (by rw [hF, if_neg (by omega)]))
    · have hpos : 0 < (bb_list M v).length := by
        by_cases e : (bb_list M v).length ≤ 0
        · exact absurd ((nI_leI (b := 0) (by omega) (by omega)).mpr e) c4
        · omega
      obtain ⟨g1, g2, g3⟩ := hlim v hvm hpos
      refine bX11_bringBack_52 r3 rfl (k_is_o o11) (O_open ok W (by omega)) ?_
      rintro h2 ⟨O2, -⟩
      obtain ⟨o14, f0, f1, f2, f3, f4, f5, o11⟩ := O_ob O2
      obtain ⟨Q2, S2, PS2, s2, q2, p2, co2⟩ := O2
      have eb := bb_eq (v := v) W
      refine bX11_bringBack_60 o14 rfl (k_is_o o11) (c_E_restore ok s2 (v := v) (by omega) (by rw [eb]; exact g2)) ?_
      rintro h3 ⟨S3, s3, hS3, m3⟩
      rw [eb] at s3
      have O3 : c_O a B h3 M (bb_E M v) N w := ⟨Q2, S3, PS2, s3, rs_sto q2 s2 m3, p2, co_le (co_mo co2 m3) (by omega)⟩
      obtain ⟨o14, -⟩ := O_ob O3
      refine bX11_bringBack_68 (k_is_o o14) (O_close ok O3 ?_ g2 hpk h0 g1) ?_
      · exact ex_foldp _ (fun c => r_val c v (g_E M).2.1) _ _
      rintro h4 ⟨W4, -⟩
      exact bX11_bringBack_72 (R_ok (W_le W4 (by omega)) (by rw [hF, if_pos hpos]))
  · exact absurd ((nI_ltI (a := 0) (b := 10) (by omega) (by omega)).mpr (by omega)) (fun _ => c3 (by
      have hx : 0 ≤ x.toInt := by
        have := Int32.le_iff_toInt_le.mp (Int32.not_lt.mp c1)
        simpa using this
      have hj := nI_ofN hx
      have hlt : x.toInt.toNat < 2 ^ 31 := by have := Int32.toInt_lt x; omega
      have c2' := Int32.not_le.mp c2
      generalize x.toInt.toNat = j at hj hlt
      rw [hj] at c2' ⊢
      have := (nI_ltI hlt (by omega)).mp c2'
      exact (nI_ltI hlt (by omega)).mpr (by omega)))
theorem C_watch (ok : k_ok G l) {a N w : Nat} {B : Nat × Nat} {h : k_H} {M : s_M} {a1 b1 c1 : Int32} (W : c_W a B h M N w) (hwl : (g_WT M).length ≤ 20) (hlim0 : e_lim (g_E M)) : k_ct (tX11_watch G l) [vR (some a), vI a1, vI b1, vI c1] h (c_R a B (F_watch M a1 b1 c1) (fun k => if k = 1 then x_IA else x_IS) (N + 2) w) := by
  obtain ⟨Q, S, PS, s, r, p, co⟩ := id W
  obtain ⟨r1, r2, r3, r4, r5, r6, WA, capW, w1, ⟨w2, w3, w4⟩, w5⟩ := id r
  refine eX11_watch ok.2 ?_
  cases hk : s_keyB a1 b1 c1 with
  | false =>
    refine bX11_watch_0x (x_X11_requireKey ok hk) ?_
    rintro _ rfl
    have hF : F_watch M a1 b1 c1 = (M, 1, 0) := by unfold F_watch; rw [if_pos hk]
    rw [hF]
    exact ⟨W_le (W_sk W) (by omega), rfl⟩
  | true =>
    refine bX11_watch_0 (c_X11_requireKey ok hk) ?_
    rintro _ hh
    rw [hh]
    obtain ⟨na, nb, nc⟩ := s_keyB_na hk
    have hcd := s_cd_lt na nb nc
    refine bX11_watch_6 r3 rfl (Or.inr ⟨rfl, _, _, w1⟩) (c_size ok w1) ?_
    rintro _ _ ⟨hh, rfl⟩
    rw [hh, w2]
    refine bX11_watch_13 (fun c => ?_) (fun c => bX11_watch_18 ?_)
    · have hlt := (nI_ltI (b := 20) (by omega) (by omega)).mp c
      have hF : F_watch M a1 b1 c1 = (g_wts M (g_WT M ++ [(s_cd a1 b1 c1, -2147483648)]), 0, nI (g_WT M).length) := by
        unfold F_watch; rw [if_neg (by rw [hk]; decide), if_neg (by omega)]
      obtain ⟨hwf, ha31⟩ : k_wf h ∧ a + 31 ≤ h.2.1 := by
        obtain ⟨CXf, -, -, x3, x4⟩ := r1
        exact ⟨x4, x3⟩
      refine bX11_watch_29 r3 rfl ?_
      have mN : k_mo a [] (fun _ => False) 1 h (k_nw h 2 (k_o 13 [vR none, vI 0])) := mv_nw hwf ha31 (by omega)
      have oN : (k_nw h 2 (k_o 13 [vR none, vI 0])).1 h.2.1 = some (k_o 13 [vR none, vI 0]) := k_nw_self _ _ _
      generalize hg : k_nw h 2 (k_o 13 [vR none, vI 0]) = h1 at mN oN
      have s1 := sE_fr s mN (by simp) (fun _ _ _ z => z) (fun _ _ _ _ _ z => z)
      have q1 := rs_fr r mN (fun k hk => by cases hk) (fun _ _ _ z => z) (fun _ _ _ _ _ z => z)
      have co1 := co_mo co mN
      have hnew : h.2.1 ∉ WA := fun z => by
        obtain ⟨j, hj⟩ := List.getElem?_of_mem z
        have hjl := (List.getElem?_eq_some_iff.mp hj).1
        have := hwf _ _ (w5 j _ _ _ hj (List.getElem?_eq_getElem (by omega)) (List.getElem?_eq_getElem (by omega))).2
        omega
      generalize hq : h.2.1 = q at oN hnew
      obtain ⟨f0, f1, f2, f3, f4, f5, o11⟩ := sE_obj s1
      refine bX11_watch_36 q1.2.2.1 rfl (c_X11_codeOf ok na nb nc) ?_
      rintro _ _ ⟨hh, rfl⟩
      rw [hh]
      refine bX11_watch_47 (k_is_o o11) (c_E_keyForW ok s1 hcd hlim0 (by omega)) ?_
      rintro h2 _ ⟨kk, S2, rfl, s2, hS2, m2⟩
      have q2 := rs_sto q1 s1 m2
      have co2 := co_mo co1 m2
      have oN2 : h2.1 q = some (k_o 13 [vR none, vI 0]) := m2.1 _ _ oN (sE_A5 s1 oN (by decide)) (fun ci fs e => by cases e; decide)
      refine bX11_watch_50 (c_X10_init ok oN2) ?_
      rintro h3 hh3
      obtain ⟨s3, q3, m3⟩ := r6_wat s2 ⟨q2.1, q2.2.1, q2.2.2.1, q2.2.2.2.1, q2.2.2.2.2.1, q2.2.2.2.2.2.1⟩ oN2 hh3
      have co3 := co_mo co2 m3
      have oN3 : h3.1 q = some (k_o 13 [vR (some kk), vI (-2147483648)]) := by rw [hh3]; exact k_up_self _ _ _
      obtain ⟨WA2, cap2, v1, ⟨v2, v3, v4⟩, v5⟩ := id q2.2.2.2.2.2.2
      -- the watches' list is the same
      have e14 : h2.1 (a + 14) = some (k_l WA capW) := by
        have h14 : h1.1 (a + 14) = some (k_l WA capW) := mN.1 _ _ w1 id (fun ci fs e => by cases e)
        exact m2.1 _ _ h14 (fun z => by rcases z with z | z | z | z <;> omega) (fun ci fs e => by cases e)
      rw [e14] at v1
      cases v1
      have e143 : h3.1 (a + 14) = some (k_l WA capW) := m3.1 _ _ e14 id (fun ci fs e => by cases e)
      have wobj : ∀ (i b : Nat) (x : Nat × Int32) (y : k_K2), WA[i]? = some b → (g_WT M)[i]? = some x → Q[i]? = some y → y.1 = x.1 ∧ h3.1 b = some (k_o 13 [vR (some y.2), vI x.2]) := fun i b x y a1 a2 a3 => by
        obtain ⟨z1, z2⟩ := v5 i b x y a1 a2 a3
        refine ⟨z1, ?_⟩
        rw [hh3, k_up_ne _ _ (fun z => hnew (by rw [← z]; exact List.mem_of_getElem? a1))]
        exact z2
      obtain ⟨-, -, -, z4, z5⟩ := id q3.1
      have hadd := c_add ok z5 e143 (by omega) (fun z hz => by
        obtain ⟨j, hj⟩ := List.getElem?_of_mem hz
        have hjl := (List.getElem?_eq_some_iff.mp hj).1
        exact el_wat (wobj j z _ _ hj (List.getElem?_eq_getElem (by omega)) (List.getElem?_eq_getElem (by omega))).2) (el_wat oN3)
      refine bX11_watch_53 (Or.inr ⟨rfl, _, _, e143⟩) hadd ?_
      rintro h4 _ ⟨hh4, -⟩
      have m4 : k_mo a [] (fun q => q = a + 14) 0 h3 h4 := by rw [hh4]; exact mv_gr e143 (by omega) rfl (by rw [w2]; show _ ≤ 40; omega)
      obtain ⟨cap4, e4⟩ := gr_at h3 (a + 14) (WA ++ [q]) WA.length capW
      rw [← hh4] at e4
      have nO : ∀ p ci fs, h3.1 p = some (k_o ci fs) → ¬ (p = a + 14) := fun p ci fs hp z => by rw [z, e143] at hp; cases hp
      have s4 := sE_fr s3 m4 (by simp) (fun i h1 h2 z => by omega) (fun q ci fs hq hc => nO q ci fs hq)
      have co4 := co_mo co3 m4
      obtain ⟨y1, y2, y3, y4, y5, y6⟩ := q3
      have q4 : c_rs a h4 (g_wts M (g_WT M ++ [(s_cd a1 b1 c1, -2147483648)])) (Q ++ [(s_cd a1 b1 c1, kk)]) w PS := by
        refine ⟨TX_fr y1 m4 (by simp) (fun q ci fs hq hc => nO q ci fs hq) (fun i h1 h2 z => by omega), pa_fr y2 m4 (by simp) ⟨by omega, by omega⟩ (fun q fs hq => nO q 8 fs hq), ob_fr y3 m4.1 (by simp) (by omega), cl_fr y4 m4.1 (by simp) ⟨by omega, by omega, by omega⟩, mk_fr y5 m4.1 (by omega), dr_fr y6 m4.1 (by simp) (by omega) (fun q fs hq => nO q 5 fs hq), WA ++ [q], cap4, e4, ⟨?_, ?_, ?_⟩, fun i b x y u1 u2 u3 => ?_⟩
        · show (WA ++ [q]).length = (g_WT M ++ [_]).length
          rw [List.length_append, List.length_append, w2]; rfl
        · show (Q ++ [_]).length = (g_WT M ++ [_]).length
          rw [List.length_append, List.length_append, w3]; rfl
        · rw [List.nodup_append]
          exact ⟨w4, List.pairwise_singleton _ q, fun u hu v hv e => hnew (by rw [List.mem_singleton.mp hv] at e; rw [← e]; exact hu)⟩
        · have u2' : (g_WT M ++ [(s_cd a1 b1 c1, (-2147483648 : Int32))])[i]? = some x := u2
          have old : ∀ p ci fs, h3.1 p = some (k_o ci fs) → h4.1 p = some (k_o ci fs) := fun p ci fs hp => m4.1 _ _ hp (nO p ci fs hp) (fun _ _ _ => List.not_mem_nil)
          by_cases e : i < WA.length
          · rw [List.getElem?_append_left e] at u1
            rw [List.getElem?_append_left (by omega)] at u2' u3
            obtain ⟨z1, z2⟩ := wobj i b x y u1 u2' u3
            exact ⟨z1, old _ _ _ z2⟩
          · have ei : i = WA.length := by
              have := (List.getElem?_eq_some_iff.mp u1).1
              simp at this; omega
            subst ei
            rw [List.getElem?_append_right (by omega), Nat.sub_self] at u1
            rw [w2, List.getElem?_append_right (by omega), Nat.sub_self] at u2'
            rw [w2, ← w3, List.getElem?_append_right (by omega), Nat.sub_self] at u3
            simp at u1 u2' u3
            subst u1 u2' u3
            exact ⟨rfl, old _ _ _ oN3⟩
      have W4 : c_W a B h4 (g_wts M (g_WT M ++ [(s_cd a1 b1 c1, -2147483648)])) (N + 2) w := ⟨_, S2, PS, s4, q4, p, co_le co4 (by omega)⟩
      refine bX11_watch_56 q4.2.2.1 rfl (Or.inr ⟨rfl, _, _, e4⟩) (c_size ok e4) ?_
      rintro _ _ ⟨hh5, rfl⟩
      rw [hh5]
      refine bX11_watch_64 (R_ok W4 ?_)
      rw [hF, List.length_append, List.length_singleton, w2]
      exact congrArg (fun v => (g_wts M (g_WT M ++ [(s_cd a1 b1 c1, -2147483648)]), 0, v)) (nI_sub (a := (g_WT M).length + 1) (b := 1) (by omega)).symm
    · have h20 : (g_WT M).length = 20 := by
        by_cases e : (g_WT M).length < 20
        · exact absurd ((nI_ltI (b := 20) (by omega) (by omega)).mpr e) c
        · omega
      have hF : F_watch M a1 b1 c1 = (M, 2, 0) := by unfold F_watch; rw [if_neg (by rw [hk]; decide), if_pos h20]
      rw [hF]
      exact ⟨W_le (W_sk W) (by omega), rfl⟩
end CBB
end
section
/-! THE CLASS RANKS -/
theorem fold_0 {f : Nat → Int32} : ∀ (X : List Nat) (a : Int32), (∀ k ∈ X, f k = 0) → X.foldl (fun a k => a + f k) a = a := by
  intro X
  induction X with
  | nil => exact fun _ _ => rfl
  | cons x X ih =>
    intro a h
    rw [List.foldl_cons, h x List.mem_cons_self, Int32.add_zero]
    exact ih a (fun k hk => h k (List.mem_cons_of_mem _ hk))
theorem fold_s {f : Nat → Int32} (k : Nat) : (List.range' 0 (k + 1)).foldl (fun a k => a + f k) 0 = (List.range' 0 k).foldl (fun a k => a + f k) 0 + f k := by
  rw [List.range'_concat, List.foldl_append]
  show (List.range' 0 k).foldl (fun a k => a + f k) 0 + f (0 + 1 * k) = _
  rw [Nat.one_mul, Nat.zero_add]
theorem in99 {x : Int32} (h : s_inB x 0 99 = true) : 0 ≤ x ∧ x ≤ 99 := by
  unfold s_inB at h
  simp only [Bool.and_eq_true, decide_eq_true_eq, Int32.not_lt] at h
  exact h
theorem in99_not {x : Int32} (h : s_inB x 0 99 = false) : ¬ (0 ≤ x ∧ x ≤ 99) := fun z => by
  unfold s_inB at h
  rw [decide_eq_true (Int32.not_lt.mpr z.1), decide_eq_true (Int32.not_lt.mpr z.2)] at h
  cases h
theorem in99_n {x : Int32} (h : s_inB x 0 99 = true) : ∃ j, j ≤ 99 ∧ x = nI j := by
  obtain ⟨h1, h2⟩ := s_inN (m := 99) (by decide) h
  exact ⟨_, h2, h1⟩
theorem na_100 {k : Nat} (h : k < 9000) : s_na (nI k) := e_n_na h
section CRK
variable {G : k_G} {l : Launch}
theorem W_entry (ok : k_ok G l) {a N w c : Nat} {B : Nat × Nat} {h : k_H} {M : s_M} (W : c_W a B h M N w) (hc : c < 1331000000000) : k_ctr (tX8_entryIn G l) [vR (some (a + 1)), vJ (lN c), vI (nI (g_n M))] h (fun h' v => h' = h ∧ ((v = none ∧ rk_v M c = none) ∨ (∃ a k w b e, v = some a ∧ h.1 a = some (o_ent k w b e (rk_v M c))))) := by
  obtain ⟨Q, S, PS, s, r, p, co⟩ := W
  have := (sE_n s).1
  exact c_E_entryIn ok s (by omega) (by omega)
theorem W_load (ok : k_ok G l) {a N w : Nat} {B : Nat × Nat} {h : k_H} {M : s_M} {x : Option Nat} {o : Option Int32} (W : c_W a B h M N w) (hx : (x = none ∧ o = none) ∨ (∃ a k v b e, x = some a ∧ h.1 a = some (o_ent k v b e o))) : k_ctv (tX0_load G l) [vR (some (a + 10)), vR x] h (fun h' => c_W a B h' M N w ∧ h'.1 (a + 10) = some (o_cel o false)) := by
  obtain ⟨Q, S, PS, s, r, p, co⟩ := W
  obtain ⟨⟨z0, l1⟩, -⟩ := id r.2.2.2.1
  obtain ⟨h', t, e⟩ := c_X0_load ok l1 hx
  obtain ⟨s1, q1, l11, m1⟩ := cell_rs s r (o, false) e
  exact ⟨h', t, ⟨Q, S, PS, s1, q1, p, co_le (co_mo co m1) (Nat.le_refl _)⟩, l11⟩
theorem W_cel {a N w : Nat} {B : Nat × Nat} {h : k_H} {M : s_M} (W : c_W a B h M N w) : ∃ z : Option Int32 × Bool, h.1 (a + 10) = some (o_cel z.1 z.2) := by
  obtain ⟨Q, S, PS, s, r, p, co⟩ := W
  exact r.2.2.2.1.1
theorem C_rank (ok : k_ok G l) {a N w : Nat} {B : Nat × Nat} {h : k_H} {M : s_M} {x : Int32} (W : c_W a B h M N w) : k_ct (tX11_rank G l) [vR (some a), vI x] h (c_R a B (F_rank M x) x_A (N + 1) w) := by
  refine eX11_rank ok.2 ?_
  cases hin : s_inB x 0 99 with
  | false =>
    refine bX11_rank_0x (x_X11_requireField ok (in99_not hin)) ?_
    rintro _ rfl
    exact R_x (k := 1) (X := x_A) W (by unfold F_rank F_ranked; rw [if_pos hin]) (by decide)
  | true =>
    refine bX11_rank_0 (c_X11_requireField ok (in99 hin)) ?_
    rintro _ hh
    rw [hh]
    obtain ⟨f, hf, rfl⟩ := in99_n hin
    refine bX11_rank_4 ?_
    have key : ∀ (d k : Nat) (hh : k_H), f - k = d → k ≤ f → c_W a B hh M N w → k_X (jX11_rank G l h) hh 8 [(0, vR (some a)), (1, vI (nI f)), (2, vI ((List.range' 0 k).foldl (fun a k => a + rk_1 M (nI f) false k) 0)), (3, vI (nI k))] [] (c_R a B (F_rank M (nI f)) x_A (N + 1) w) := by
      intro d
      induction d with
      | zero =>
        intro k hh hd hk W1
        have e : k = f := by omega
        subst e
        refine bX11_rank_8 (fun _ => bX11_rank_56 (R_ok (W_le W1 (by omega)) ?_)) (fun c => absurd (Int32.le_refl _) c)
        unfold F_rank F_ranked
        rw [if_neg (by rw [hin]; decide)]
        refine congrArg (fun v => (M, 0, v)) ?_
        unfold rk_sum
        have e1 : List.range' 0 100 = List.range' 0 k ++ List.range' k (100 - k) := by
          have := List.range'_append (s := 0) (m := k) (n := 100 - k) (step := 1)
          rw [show k + (100 - k) = 100 by omega, Nat.one_mul, Nat.zero_add] at this
          exact this.symm
        rw [e1, List.foldl_append]
        refine fold_0 _ _ (fun j hj => ?_)
        have hj2 := List.mem_range'_1.mp hj
        unfold rk_1
        rw [if_neg (by decide), if_neg]
        rw [decide_eq_false (show ¬ ¬ nI k ≤ nI j from fun z => z ((nI_leI (by omega) (by omega)).mpr hj2.1)), Bool.and_false]
        decide
      | succ d ih =>
        intro k hh hd hk W1
        refine bX11_rank_8 (fun c => absurd ((nI_leI (by omega) (by omega)).mp c) (by omega)) (fun c => ?_)
        obtain ⟨o14, f0, f1, f2, f3, f4, f5, o11⟩ := W_ob W1
        have hcd := s_cd_lt na_m6.2.2.2.2.1 (na_100 (k := k) (by omega)) na_m6.2.2.2.2.2.2.2
        refine bX11_rank_13 o14 rfl rfl (c_X11_codeOf_ ok na_m6.2.2.2.2.1 (na_100 (by omega))) ?_
        rintro _ _ ⟨hh2, rfl⟩
        rw [hh2]
        refine bX11_rank_27 o14 rfl o11 rfl (k_is_o o11) (W_entry ok W1 hcd) ?_
        rintro _ v ⟨hh2, hv⟩
        rw [hh2]
        obtain ⟨z, oc⟩ := W_cel W1
        refine bX11_rank_37 (k_is_o oc) (W_load ok W1 hv) ?_
        rintro h3 ⟨W3, oc3⟩
        obtain ⟨o14, -⟩ := W_ob W3
        refine bX11_rank_40 o14 rfl oc3 rfl ?_
        rw [nI_1]
        have e1 : (rk_v M (s_cd (-3) (nI k) 10000)).getD 0 = rk_1 M (nI f) false k := by
          unfold rk_1
          rw [if_neg (by decide), decide_eq_true (show ¬ nI f ≤ nI k from c), Bool.and_true]
          cases rk_v M (s_cd (-3) (nI k) 10000) <;> rfl
        rw [e1, ← fold_s]
        exact ih (k + 1) h3 (by omega) (by omega) W3
    exact key f 0 h rfl (Nat.zero_le _) W
theorem C_rankAnew (ok : k_ok G l) {a N w : Nat} {B : Nat × Nat} {h : k_H} {M : s_M} {x : Int32} (W : c_W a B h M N w) : k_ct (tX11_rankAnew G l) [vR (some a), vI x] h (c_R a B (F_rankAnew M x) x_A (N + 1) w) := by
  refine eX11_rankAnew ok.2 ?_
  cases hin : s_inB x 0 99 with
  | false =>
    refine bX11_rankAnew_0x (x_X11_requireField ok (in99_not hin)) ?_
    rintro _ rfl
    exact R_x (k := 1) (X := x_A) W (by unfold F_rankAnew F_ranked; rw [if_pos hin]) (by decide)
  | true =>
    refine bX11_rankAnew_0 (c_X11_requireField ok (in99 hin)) ?_
    rintro _ hh
    rw [hh]
    refine bX11_rankAnew_4 ?_
    have key : ∀ (d k : Nat) (hh : k_H), 100 - k = d → k ≤ 100 → c_W a B hh M N w → k_X (jX11_rankAnew G l h) hh 8 [(0, vR (some a)), (1, vI x), (2, vI ((List.range' 0 k).foldl (fun a k => a + rk_1 M x true k) 0)), (3, vI (nI k))] [] (c_R a B (F_rankAnew M x) x_A (N + 1) w) := by
      intro d
      induction d with
      | zero =>
        intro k hh hd hk W1
        have e : k = 100 := by omega
        subst e
        refine bX11_rankAnew_8 (fun _ => bX11_rankAnew_70 (R_ok (W_le W1 (by omega)) ?_)) (fun c => absurd (by decide) c)
        unfold F_rankAnew F_ranked
        rw [if_neg (by rw [hin]; decide)]
        rfl
      | succ d ih =>
        intro k hh hd hk W1
        refine bX11_rankAnew_8 (fun c => absurd ((nI_ltI (a := 99) (by omega) (by omega)).mp c) (by omega)) (fun c => ?_)
        obtain ⟨o14, f0, f1, f2, f3, f4, f5, o11⟩ := W_ob W1
        have hcd := s_cd_lt na_m6.2.2.2.2.2.2.1 (na_100 (k := k) (by omega)) na_m6.2.2.2.2.2.2.2
        refine bX11_rankAnew_14 o14 rfl rfl (c_X11_codeOf_ ok na_m6.2.2.2.2.2.2.1 (na_100 (by omega))) ?_
        rintro _ _ ⟨hh2, rfl⟩
        rw [hh2]
        refine bX11_rankAnew_27 o14 rfl o11 rfl (k_is_o o11) (W_entry ok W1 hcd) ?_
        rintro _ v ⟨hh2, hv⟩
        rw [hh2]
        obtain ⟨z, oc⟩ := W_cel W1
        refine bX11_rankAnew_37 (k_is_o oc) (W_load ok W1 hv) ?_
        rintro h3 ⟨W3, oc3⟩
        obtain ⟨o14, -⟩ := W_ob W3
        have next : ∀ v, (List.range' 0 k).foldl (fun a k => a + rk_1 M x true k) 0 + rk_1 M x true k = v → k_X (jX11_rankAnew G l h) h3 64 [(0, vR (some a)), (1, vI x), (2, vI v), (3, vI (nI k))] [] (c_R a B (F_rankAnew M x) x_A (N + 1) w) := fun v hv => by
          refine bX11_rankAnew_64 ?_
          rw [nI_1, ← hv, ← fold_s]
          exact ih (k + 1) h3 (by omega) (by omega) W3
        have e1 : rk_1 M x true k = if (rk_v M (s_cd (-1) (nI k) 10000)).isSome && decide (¬ x ≤ o_told (rk_v M (s_cd (-1) (nI k) 10000))) then 1 else 0 := rfl
        rw [e1] at next
        cases ho : rk_v M (s_cd (-1) (nI k) 10000) with
        | none =>
          rw [ho] at oc3 next
          refine bX11_rankAnew_40 o14 rfl oc3 rfl (fun _ => next _ ?_) (fun c => absurd rfl c)
          exact Int32.add_zero _
        | some u =>
          rw [ho] at oc3 next
          refine bX11_rankAnew_40 o14 rfl oc3 rfl (fun c => absurd c (show ¬ (1 : Int32) = 0 by decide)) (fun _ => bX11_rankAnew_50 o14 rfl oc3 rfl (fun c => next _ ?_) (fun c => bX11_rankAnew_61 (next _ ?_)))
          · rw [if_neg]
            · exact Int32.add_zero _
            · rw [decide_eq_false (show ¬ ¬ x ≤ o_told (some u) from fun z => z c), Bool.and_false]; decide
          · rw [if_pos]
            rw [decide_eq_true (show ¬ x ≤ o_told (some u) from c)]; rfl
    exact key 100 0 h rfl (by omega) W
end CRK
end
