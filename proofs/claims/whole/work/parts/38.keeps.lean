/-! RANGES AND STAMPED KEYS ARE KEPT -/
section KE
variable {G : k_G} {l : Launch}
/-- a range is cleared -/
theorem c_X9_keepRange (ok : k_ok G l) {h : k_H} {t aL cap c e : Nat} {kept : Int32} {f1 f2 f3 f4 f5 f6 : k_V} {CS : List k_CH} (wh : k_wf h) (ht : h.1 t = some (k_o 12 [vR (some aL), f1, f2, f3, f4, f5, f6, vI kept])) (hcs : r_cs h aL cap CS) :
    k_ctv (tX9_keepRange G l) [vR (some t), vJ (lN c), vJ (lN e)] h (fun h' => h' = k_up (k_gr (k_nw h 5 (o_chg (h.2.1, 1, c, e, 0, 0))) aL (CS.map (fun x => x.1) ++ [h.2.1]) CS.length cap) t (k_o 12 [vR (some aL), f1, f2, f3, f4, f5, f6, vI (kept + 1)])) := by
  obtain ⟨k1, k2, k3⟩ := hcs
  have tl : t ≠ aL := fun z => by subst z; rw [k1] at ht; cases ht
  refine k_ctv_of (eX9_keepRange ok.2 (bX9_keepRange_0 ht rfl (bX9_keepRange_7 (c_X1_init ok (k_nw_self _ _ _)) ?_)))
  rintro h1 hh
  rw [hh, up_nw]
  have hk2 := nw_old (n := 5) (c := o_chg (h.2.1, 1, c, e, 0, 0)) wh k1
  refine bX9_keepRange_16 (Or.inr ⟨rfl, _, _, hk2⟩) (c_add ok (k_wf_nw wh) hk2 (by rw [List.length_map]; exact k3) (fun z hz => ?_) (el_chg (k_nw_self _ _ _))) ?_
  · obtain ⟨y, hy, rfl⟩ := List.mem_map.mp hz
    exact el_chg (nw_old wh (k2 y hy).1)
  · rintro h1 v ⟨hh, rfl⟩
    rw [hh, List.length_map]
    have hg : ∀ ys n, (k_gr (k_nw h 5 (o_chg (h.2.1, 1, c, e, 0, 0))) aL ys n cap).1 t = (k_nw h 5 (o_chg (h.2.1, 1, c, e, 0, 0))).1 t := fun ys n => by
      unfold k_gr
      split
      · exact k_up_ne _ _ tl
      · exact k_up_ne (k_nw h 5 (o_chg (h.2.1, 1, c, e, 0, 0))) _ tl
    refine bX9_keepRange_19 ((hg _ _).trans (nw_old wh ht)) rfl rfl (bX9_keepRange_30 ⟨rfl, rfl⟩)
/-- a stamped key is kept -/
theorem c_X9_keepStamped (ok : k_ok G l) {h : k_H} {t aL cap c : Nat} {p v kept : Int32} {f1 f2 f3 f4 f5 f6 : k_V} {CS : List k_CH} (wh : k_wf h) (ht : h.1 t = some (k_o 12 [vR (some aL), f1, f2, f3, f4, f5, f6, vI kept])) (hcs : r_cs h aL cap CS) :
    k_ctv (tX9_keepStamped G l) [vR (some t), vJ (lN c), vI p, vI v] h (fun h' => h' = k_up (k_gr (k_nw h 5 (o_chg (h.2.1, 6, c, c + 1, v, p))) aL (CS.map (fun x => x.1) ++ [h.2.1]) CS.length cap) t (k_o 12 [vR (some aL), f1, f2, f3, f4, f5, f6, vI (kept + 1)])) := by
  obtain ⟨k1, k2, k3⟩ := hcs
  have tl : t ≠ aL := fun z => by subst z; rw [k1] at ht; cases ht
  refine k_ctv_of (eX9_keepStamped ok.2 (bX9_keepStamped_0 ht rfl (bX9_keepStamped_7 (c_X1_init ok (k_nw_self _ _ _)) ?_)))
  rintro h1 hh
  rw [hh, up_nw]
  have e1 : lN c + 1 = lN (c + 1) := lN_1 c
  rw [e1]
  have hk2 := nw_old (n := 5) (c := o_chg (h.2.1, 6, c, c + 1, v, p)) wh k1
  refine bX9_keepStamped_20 (Or.inr ⟨rfl, _, _, hk2⟩) (c_add ok (k_wf_nw wh) hk2 (by rw [List.length_map]; exact k3) (fun z hz => ?_) (el_chg (k_nw_self _ _ _))) ?_
  · obtain ⟨y, hy, rfl⟩ := List.mem_map.mp hz
    exact el_chg (nw_old wh (k2 y hy).1)
  · rintro h1 v ⟨hh, rfl⟩
    rw [hh, List.length_map]
    have hg : ∀ ys n, (k_gr (k_nw h 5 (o_chg (h.2.1, 6, c, c + 1, v, p))) aL ys n cap).1 t = (k_nw h 5 (o_chg (h.2.1, 6, c, c + 1, v, p))).1 t := fun ys n => by
      unfold k_gr
      split
      · exact k_up_ne _ _ tl
      · exact k_up_ne (k_nw h 5 (o_chg (h.2.1, 6, c, c + 1, v, p))) _ tl
    refine bX9_keepStamped_23 ((hg _ _).trans (nw_old wh ht)) rfl rfl (bX9_keepStamped_34 ⟨rfl, rfl⟩)
end KE
/-- the changes behind a keeping -/
theorem cs_kept {h : k_H} {t aL cap n : Nat} {x : k_CH} {gs fs : List k_V} {CS : List k_CH} (wh : k_wf h) (ht : h.1 t = some (k_o 12 gs)) (hcs : r_cs h aL cap CS) (hx : x.1 = h.2.1) (hb : x.2.2.1 < 2 ^ 62 ∧ x.2.2.2.1 < 2 ^ 62) (hl : CS.length + 1 < 2 ^ 18) (hn : n = CS.length) :
    ∃ cap', r_cs (k_up (k_gr (k_nw h 5 (o_chg x)) aL (CS.map (fun x => x.1) ++ [h.2.1]) n cap) t (k_o 12 fs)) aL cap' (CS ++ [x]) := by
  obtain ⟨k1, k2, k3⟩ := hcs
  have tl : t ≠ aL := fun z => by subst z; rw [k1] at ht; cases ht
  have la : aL < h.2.1 := wh _ _ k1
  have hg : ∀ q, q ≠ aL → (k_gr (k_nw h 5 (o_chg x)) aL (CS.map (fun x => x.1) ++ [h.2.1]) n cap).1 q = (k_nw h 5 (o_chg x)).1 q := fun q hq => by
    unfold k_gr
    split
    · exact k_up_ne _ _ hq
    · exact k_up_ne (k_nw h 5 (o_chg x)) _ hq
  have hs : ∃ cap', (k_gr (k_nw h 5 (o_chg x)) aL (CS.map (fun x => x.1) ++ [h.2.1]) n cap).1 aL = some (k_l (CS.map (fun x => x.1) ++ [h.2.1]) cap') := by
    unfold k_gr
    split
    · exact ⟨cap, k_up_self _ _ _⟩
    · exact ⟨k_nc cap, k_up_self (k_nw h 5 (o_chg x)) aL _⟩
  obtain ⟨cap', e1⟩ := hs
  refine ⟨cap', ?_, fun y hy => ?_, by simp; omega⟩
  · rw [k_up_ne _ _ (Ne.symm tl), e1, List.map_append, ← hx]
    rfl
  · rcases List.mem_append.mp hy with hy | hy
    · obtain ⟨m1, m2, m3⟩ := k2 y hy
      have hlt := wh _ _ m1
      refine ⟨?_, m2, m3⟩
      rw [k_up_ne _ _ (fun z => by rw [z, ht] at m1; cases m1), hg _ (fun z => by rw [z, k1] at m1; cases m1)]
      exact nw_old wh m1
    · have : y = x := by simpa using hy
      subst this
      have htt := wh _ _ ht
      refine ⟨?_, hb⟩
      rw [hx, k_up_ne _ _ (by omega), hg _ (by omega), k_nw_self]
