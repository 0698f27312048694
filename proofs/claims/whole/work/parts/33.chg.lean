/-! CHANGES OF A TRANSACTION: (address, kind, low, high, value, place) -/
abbrev k_CH : Type := Nat × Int32 × Nat × Nat × Int32 × Int32
abbrev o_chg (x : k_CH) : k_C := k_o 4 [vI x.2.1, vJ (lN x.2.2.1), vJ (lN x.2.2.2.1), vI x.2.2.2.2.1, vI x.2.2.2.2.2]
abbrev o_cel (o : Option Int32) (st : Bool) : k_C := k_o 3 [vI (kB o.isSome), vI (kB st), vI (o.getD 0)]
def s_apO (k g s : Int32) (o : Option Int32) : Option Int32 := if k = 1 then none else some (ap_v k g s (kB o.isSome) (o.getD 0))
def s_apS (k : Int32) (st : Bool) : Bool := decide (k = 5) || st && decide (¬ k = 0) && decide (¬ k = 1)
theorem o_cel_ap (k g s : Int32) (o : Option Int32) (st : Bool) : k_o 3 [vI (ap_p k), vI (ap_s k (kB st)), vI (ap_v k g s (kB o.isSome) (o.getD 0))] = o_cel (s_apO k g s o) (s_apS k st) := by
  have e1 : ap_p k = kB (s_apO k g s o).isSome := by
    unfold ap_p s_apO
    by_cases c : k = 1
    · rw [if_pos c, if_pos c]; rfl
    · rw [if_neg c, if_neg c]; rfl
  have e2 : ap_v k g s (kB o.isSome) (o.getD 0) = (s_apO k g s o).getD 0 := by
    unfold s_apO
    by_cases c : k = 1
    · rw [if_pos c]
      unfold ap_v
      rw [if_pos c]
      rfl
    · rw [if_neg c]; rfl
  have e3 : ap_s k (kB st) = kB (s_apS k st) := by
    unfold ap_s s_apS
    by_cases c5 : k = 5
    · rw [if_pos c5]; simp [c5, kB]
    · rw [if_neg c5]
      cases st with
      | false => simp [kB, c5]
      | true =>
        rw [if_neg (kB_n0.mpr rfl)]
        by_cases c0 : k = 0
        · rw [if_pos c0]; simp [c0, kB]
        · rw [if_neg c0]
          by_cases c1 : k = 1
          · rw [if_pos c1]; simp [c1, kB]
          · rw [if_neg c1]; simp [c5, c0, c1, kB]
  rw [e1, e2, e3]
def s_cov (x : k_CH) (c : Nat) : Bool := s_ord x.2.1 && decide (x.2.2.1 ≤ c) && decide (c < x.2.2.2.1)
def s_see (c : Nat) (CS : List k_CH) (z : Option Int32 × Bool) : Option Int32 × Bool := CS.foldl (fun z x => if s_cov x c = true then (s_apO x.2.1 x.2.2.2.2.1 0 z.1, s_apS x.2.1 z.2) else z) z
/-- the changes stand in the heap -/
def r_cs (h : k_H) (aL cap : Nat) (CS : List k_CH) : Prop := h.1 aL = some (k_l (CS.map (fun x => x.1)) cap) ∧ (∀ x ∈ CS, h.1 x.1 = some (o_chg x) ∧ x.2.2.1 < 2 ^ 62 ∧ x.2.2.2.1 < 2 ^ 62) ∧ CS.length < 2 ^ 18
/-- whether one of the first changes alone says what a range has -/
def s_own (CS : List k_CH) (lo hi : Nat) : Bool := CS.any (fun x => s_all x.2.1 && decide (x.2.2.1 ≤ lo) && decide (hi ≤ x.2.2.2.1))
section CH
variable {G : k_G} {l : Launch}
theorem c_X1_covers (ok : k_ok G l) {h : k_H} {x : k_CH} {c : Nat} (ho : h.1 x.1 = some (o_chg x)) (h1 : x.2.2.1 < 2 ^ 62) (h2 : x.2.2.2.1 < 2 ^ 62) (hc : c < 2 ^ 62) : k_cti (tX1_covers G l) [vR (some x.1), vJ (lN c)] h (fun h' v => h' = h ∧ v = kB (s_cov x c)) := by
  refine k_cti_of (eX1_covers ok.2 (bX1_covers_0 (k_is_o ho) (c_X1_isInOrder ok ho) ?_))
  rintro h9 v ⟨hh, rfl⟩
  rw [hh]
  refine bX1_covers_4 (fun c1 => ?_) (fun c1 => ?_)
  · rw [kB_0] at c1
    refine bX1_covers_29 (bX1_covers_30 (Or.inl rfl) ⟨_, rfl, rfl, ?_⟩)
    unfold s_cov
    rw [c1]; rfl
  · rw [kB_n0] at c1
    refine bX1_covers_7 ho rfl (fun c2 => ?_) (fun c2 => ?_)
    · have c3 := (lX_lt hc h1).mp c2
      refine bX1_covers_29 (bX1_covers_30 (Or.inl rfl) ⟨_, rfl, rfl, ?_⟩)
      unfold s_cov
      rw [c1, decide_eq_false (show ¬ x.2.2.1 ≤ c by omega)]; rfl
    · have c3 : ¬ c < x.2.2.1 := fun z => c2 ((lX_lt hc h1).mpr z)
      refine bX1_covers_16 ho rfl (fun c4 => ?_) (fun c4 => ?_)
      · have c5 := (lX_le h2 hc).mp c4
        refine bX1_covers_29 (bX1_covers_30 (Or.inl rfl) ⟨_, rfl, rfl, ?_⟩)
        unfold s_cov
        rw [decide_eq_false (show ¬ c < x.2.2.2.1 by omega), Bool.and_false]; rfl
      · have c5 : ¬ x.2.2.2.1 ≤ c := fun z => c4 ((lX_le h2 hc).mpr z)
        refine bX1_covers_25 (bX1_covers_30 (Or.inr rfl) ⟨_, rfl, rfl, ?_⟩)
        unfold s_cov
        rw [c1, decide_eq_true (show x.2.2.1 ≤ c by omega), decide_eq_true (show c < x.2.2.2.1 by omega)]; rfl
theorem c_X9_look (ok : k_ok G l) {h : k_H} {t aL aC cap c : Nat} {p q v : Int32} {f1 f2 f3 f4 f5 f6 f7 : k_V} {CS : List k_CH} {x : Option Nat} {o : Option Int32} (ht : h.1 t = some (k_o 12 [vR (some aL), f1, f2, f3, f4, f5, f6, f7])) (hC : h.1 aC = some (k_o 3 [vI p, vI q, vI v])) (hcs : r_cs h aL cap CS) (hc : c < 2 ^ 62) (hx : (x = none ∧ o = none) ∨ (∃ a k v b e, x = some a ∧ h.1 a = some (o_ent k v b e o))) :
    k_ctv (tX9_look G l) [vR (some t), vR (some aC), vJ (lN c), vR x] h (fun h' => h' = k_up h aC (o_cel (s_see c CS (o, false)).1 (s_see c CS (o, false)).2)) := by
  obtain ⟨k1, k2, k3⟩ := hcs
  have tne : t ≠ aC := fun z => by subst z; rw [ht] at hC; cases hC
  have lne : aL ≠ aC := fun z => by subst z; rw [k1] at hC; cases hC
  refine k_ctv_of (eX9_look ok.2 (bX9_look_0 (k_is_o hC) (c_X0_load ok hC hx) ?_))
  rintro h1 rfl
  refine bX9_look_6 ?_
  have key : ∀ (d i : Nat) (z : Option Int32 × Bool), CS.length - i = d → i ≤ CS.length → s_see c (CS.drop i) z = s_see c CS (o, false) →
      k_X (jX9_look G l h) (k_up h aC (o_cel z.1 z.2)) 9 [(0, vR (some t)), (1, vR (some aC)), (2, vJ (lN c)), (5, vI (nI i))] [] (q_v (fun h' => h' = k_up h aC (o_cel (s_see c CS (o, false)).1 (s_see c CS (o, false)).2))) := by
    intro d
    induction d with
    | zero =>
      intro i z hd hi hz
      refine bX9_look_9 (by rw [k_up_ne _ _ tne]; exact ht) rfl (Or.inr ⟨rfl, _, _, by rw [k_up_ne _ _ lne]; exact k1⟩) (c_size ok (by rw [k_up_ne _ _ lne]; exact k1)) ?_
      rintro h1 v ⟨hh, rfl⟩
      rw [hh, List.length_map]
      refine bX9_look_18 (fun _ => bX9_look_65 ⟨rfl, ?_⟩) (fun c1 => absurd (nI_le (by omega) (by omega)) c1)
      have e : i = CS.length := by omega
      rw [e, List.drop_length] at hz
      rw [← hz]
      rfl
    | succ d ih =>
      intro i z hd hi hz
      have hlt : i < CS.length := by omega
      obtain ⟨y, hy⟩ : ∃ y, CS[i]? = some y := ⟨_, List.getElem?_eq_getElem hlt⟩
      have hy2 : (CS.map (fun x => x.1))[i]? = some y.1 := by rw [List.getElem?_map, hy]; rfl
      obtain ⟨m1, m2, m3⟩ := k2 y (List.mem_of_getElem? hy)
      have yne : y.1 ≠ aC := fun z => by rw [z, hC] at m1; cases m1
      have hdrop : CS.drop i = y :: CS.drop (i + 1) := by
        rw [List.drop_eq_getElem_cons hlt]
        congr 1
        exact (List.getElem?_eq_some_iff.mp hy).2
      have m4 : (k_up h aC (o_cel z.1 z.2)).1 y.1 = some (o_chg y) := by rw [k_up_ne _ _ yne]; exact m1
      refine bX9_look_9 (by rw [k_up_ne _ _ tne]; exact ht) rfl (Or.inr ⟨rfl, _, _, by rw [k_up_ne _ _ lne]; exact k1⟩) (c_size ok (by rw [k_up_ne _ _ lne]; exact k1)) ?_
      rintro h1 v ⟨hh, rfl⟩
      rw [hh, List.length_map]
      refine bX9_look_18 (fun c1 => absurd c1 (nI_ge hlt (by omega))) (fun _ => ?_)
      refine bX9_look_21 (by rw [k_up_ne _ _ tne]; exact ht) rfl (Or.inr ⟨rfl, _, _, by rw [k_up_ne _ _ lne]; exact k1⟩) (c_get ok (by rw [k_up_ne _ _ lne]; exact k1) hy2) ?_
      rintro h1 v ⟨hh, rfl⟩
      rw [hh]
      refine bX9_look_30 m4 (c_X1_covers ok m4 m2 m3 hc) ?_
      rintro h1 v ⟨hh, rfl⟩
      rw [hh]
      rw [hdrop] at hz
      refine bX9_look_41 (fun c3 => ?_) (fun c3 => ?_)
      · rw [kB_0] at c3
        refine bX9_look_59 ?_
        rw [nI_1]
        refine ih (i + 1) z (by omega) (by omega) ?_
        rw [← hz]
        unfold s_see
        rw [List.foldl_cons, if_neg (by rw [c3]; decide)]
      · rw [kB_n0] at c3
        refine bX9_look_44 m4 rfl rfl (k_is_o (k_up_self _ _ _)) (c_X0_apply ok (k_up_self _ _ _)) ?_
        rintro h1 hh
        rw [hh, k_uu, o_cel_ap]
        refine bX9_look_59 ?_
        rw [nI_1]
        refine ih (i + 1) (s_apO y.2.1 y.2.2.2.2.1 0 z.1, s_apS y.2.1 z.2) (by omega) (by omega) ?_
        rw [← hz]
        unfold s_see
        rw [List.foldl_cons, if_pos c3]
  exact key _ 0 (o, false) rfl (Nat.zero_le _) rfl
end CH
