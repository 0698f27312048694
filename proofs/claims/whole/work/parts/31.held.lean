/-! THE KEYS WITH A VALUE, LISTED; how lists grow -/
def k_gw (m : Nat) : Nat → Nat → Nat → Nat → Prop
  | 0, c, c', n => c' = c ∧ n = 0
  | k + 1, c, c', n => c ≤ m ∧ ∃ n1, k_gw m k (k_nc c) c' n1 ∧ n = k_nc c + n1
theorem k_gw_trans {m : Nat} : ∀ {k1 c c' n1 k2 c2 n2 : Nat}, k_gw m k1 c c' n1 → k_gw m k2 c' c2 n2 → k_gw m (k1 + k2) c c2 (n1 + n2) := by
  intro k1
  induction k1 with
  | zero =>
    rintro c c' n1 k2 c2 n2 ⟨rfl, rfl⟩ h
    rw [Nat.zero_add, Nat.zero_add]
    exact h
  | succ k ih =>
    rintro c c' n1 k2 c2 n2 ⟨h1, n3, h3, rfl⟩ h
    rw [Nat.succ_add, Nat.add_assoc]
    exact ⟨h1, _, ih h3 h, rfl⟩
theorem k_gw_mono {m m' : Nat} (hm : m ≤ m') : ∀ {k c c' n : Nat}, k_gw m k c c' n → k_gw m' k c c' n := by
  intro k
  induction k with
  | zero => exact fun h => h
  | succ k ih =>
    rintro c c' n ⟨h1, n3, h3, h4⟩
    exact ⟨by omega, n3, ih h3, h4⟩
/-- objects stay as they are -/
def k_kp (h h' : k_H) : Prop := ∀ (q ci : Nat) (fs : List k_V), h.1 q = some (k_o ci fs) → h'.1 q = some (k_o ci fs)
theorem keep_l {h : k_H} {a c c' k n : Nat} {xs ys : List Nat} (ho : h.1 a = some (k_l xs c)) : k_kp h (k_sk (k_up h a (k_l ys c')) k n) := fun q ci fs hq => by
  have hne : q ≠ a := fun z => by subst z; rw [ho] at hq; cases hq
  show (k_up h a (k_l ys c')).1 q = _
  rw [k_up_ne _ _ hne]
  exact hq
theorem r_ks_keep {h h' : k_H} {KS : List k_K2} {L : List k_E4} (k : k_kp h h') (r : r_ks h KS L) : r_ks h' KS L := ⟨fun x hx => ⟨(r.1 x hx).1, k _ _ _ (r.1 x hx).2⟩, r.2⟩
theorem r_log_keep {h h' : k_H} {ka : Nat → Nat} (k : k_kp h h') : ∀ {L : List k_E4}, r_log h ka L → r_log h' ka L := by
  intro L
  induction L with
  | nil => exact fun _ => trivial
  | cons x t ih => exact fun r => ⟨k _ _ _ r.1, ih r.2⟩
theorem k_wf_sk {h : k_H} {k n : Nat} (w : k_wf h) : k_wf (k_sk h k n) := fun q c hq => by
  have := w q c hq
  show q < h.2.1 + k
  omega
theorem sk_sk (h : k_H) (k n k' n' : Nat) : k_sk (k_sk h k n) k' n' = k_sk h (k + k') (n + n') := by
  unfold k_sk
  simp only [Nat.add_assoc]
theorem add_norm {h : k_H} {a cap k n : Nat} {ys zs : List Nat} {c0 : k_C} : ∃ cap' k' n', k_gr (k_sk (k_up h a c0) k n) a zs ys.length cap = k_sk (k_up h a (k_l zs cap')) (k + k') (n + n') ∧ k_gw ys.length k' cap cap' n' := by
  have e : ∀ c : k_C, k_up (k_sk (k_up h a c0) k n) a c = k_sk (k_up h a c) k n := fun c => by
    unfold k_sk k_up
    refine Prod.ext (funext fun q => ?_) rfl
    by_cases e : q = a <;> simp [e]
  unfold k_gr
  by_cases hl : ys.length < cap
  · rw [if_pos hl, e]
    exact ⟨cap, 0, 0, rfl, rfl, rfl⟩
  · rw [if_neg hl, e]
    exact ⟨k_nc cap, 1, k_nc cap, sk_sk _ _ _ _ _, by omega, 0, ⟨rfl, rfl⟩, rfl⟩
theorem el_key {h : k_H} {c a : Nat} {L : List k_E4} (ho : h.1 a = some (o_key c L)) : k_el h a := ⟨7, k_is_o ho, k_to (C := "Keyterrace$Key") rfl (by simp [k_casts])⟩
/-- the addresses of the keys with a value ahead of a code, out of a row of keys -/
def r_hd (hi : Nat) (L : List k_E4) (t : List k_K2) : List Nat := (t.filter (fun x => decide (x.1 < hi) && (r_now x.1 L).isSome)).map (fun x => x.2)
def r_held (lo hi : Nat) (KS : List k_K2) (L : List k_E4) : List Nat := r_hd hi L (KS.drop (r_pl lo KS))
section HD
variable {G : k_G} {l : Launch}
theorem c_X8_listHeld (ok : k_ok G l) {h : k_H} {s aK aH cap capH lo hi : Nat} {xs : List Nat} {f1 f3 f4 f5 f6 : k_V} {KS : List k_K2} {L : List k_E4} {ka : Nat → Nat} (wh : k_wf h) (hs : h.1 s = some (k_o 11 [vR (some aK), f1, vR (some aH), f3, f4, f5, f6])) (hk : h.1 aK = some (k_l (KS.map (fun x => x.2)) cap)) (hH : h.1 aH = some (k_l xs capH)) (hne : aK ≠ aH) (hks : r_ks h KS L) (hL : r_log h ka L) (hlo : lo < 2 ^ 62) (hhi : hi < 2 ^ 62) :
    k_ctr (tX8_listHeld G l) [vR (some s), vJ (lN lo), vJ (lN hi)] h (fun h' v => v = some aH ∧ ∃ cap' k n, h' = k_sk (k_up h aH (k_l (r_held lo hi KS L) cap')) k n ∧ k_gw KS.length k capH cap' n) := by
  obtain ⟨k1, k2, k3⟩ := id hks
  have sne : s ≠ aH := fun z => by subst z; rw [hs] at hH; cases hH
  refine k_ctr_of (eX8_listHeld ok.2 (bX8_listHeld_0 hs rfl (Or.inr ⟨rfl, _, _, hH⟩) (c_clear ok hH) ?_))
  rintro h1 rfl
  have hat : ∀ (ys : List Nat) (c k n q : Nat), q ≠ aH → (k_sk (k_up h aH (k_l ys c)) k n).1 q = h.1 q := fun ys c k n q hq => by
    show (k_up h aH (k_l ys c)).1 q = _
    rw [k_up_ne _ _ hq]
  have kp0 : k_kp h (k_up h aH (k_l [] capH)) := keep_l (k := 0) (n := 0) hH
  refine bX8_listHeld_7 (k_is_o (by rw [k_up_ne _ _ sne]; exact hs)) (c_X8_placeFrom ok (by rw [k_up_ne _ _ sne]; exact hs) (by rw [k_up_ne _ _ hne]; exact hk) (r_ks_keep kp0 hks) hlo) ?_
  rintro h1 v ⟨hh, rfl⟩
  rw [hh]
  refine bX8_listHeld_12 ?_
  have key : ∀ (d i : Nat) (ys : List Nat) (c k n : Nat), KS.length - i = d → i ≤ KS.length → ys.length ≤ i → (∀ z ∈ ys, ∃ x ∈ KS, z = x.2) → r_held lo hi KS L = ys ++ r_hd hi L (KS.drop i) → k_gw KS.length k capH c n →
      k_X (jX8_listHeld G l h) (k_sk (k_up h aH (k_l ys c)) k n) 14 [(0, vR (some s)), (3, vJ (lN hi)), (5, vI (nI i))] [] (q_r (fun h' v => v = some aH ∧ ∃ cap' k n, h' = k_sk (k_up h aH (k_l (r_held lo hi KS L) cap')) k n ∧ k_gw KS.length k capH cap' n)) := by
    intro d
    induction d with
    | zero =>
      intro i ys c k n hd hi9 hy hys hr hg
      have e : i = KS.length := by omega
      refine bX8_listHeld_14 ((hat _ _ _ _ _ sne).trans hs) rfl (Or.inr ⟨rfl, _, _, (hat _ _ _ _ _ hne).trans hk⟩) (c_size ok ((hat _ _ _ _ _ hne).trans hk)) ?_
      rintro h1 v ⟨hh, rfl⟩
      rw [hh, List.length_map]
      refine bX8_listHeld_23 (fun _ => ?_) (fun c1 => absurd (nI_le (by omega) (by omega)) c1)
      refine bX8_listHeld_79 ((hat _ _ _ _ _ sne).trans hs) rfl ⟨_, rfl, rfl, c, k, n, ?_, hg⟩
      rw [hr, e, List.drop_length]
      simp [r_hd]
    | succ d ih =>
      intro i ys c k n hd hi9 hy hys hr hg
      have hlt : i < KS.length := by omega
      obtain ⟨x, hx⟩ : ∃ x, KS[i]? = some x := ⟨_, List.getElem?_eq_getElem hlt⟩
      have hx2 : (KS.map (fun x => x.2))[i]? = some x.2 := by rw [List.getElem?_map, hx]; rfl
      have hxm := List.mem_of_getElem? hx
      have hmem := k1 x hxm
      have kp : k_kp h (k_sk (k_up h aH (k_l ys c)) k n) := keep_l hH
      have hdrop : KS.drop i = x :: KS.drop (i + 1) := by
        rw [List.drop_eq_getElem_cons hlt]
        congr 1
        exact (List.getElem?_eq_some_iff.mp hx).2
      refine bX8_listHeld_14 ((hat _ _ _ _ _ sne).trans hs) rfl (Or.inr ⟨rfl, _, _, (hat _ _ _ _ _ hne).trans hk⟩) (c_size ok ((hat _ _ _ _ _ hne).trans hk)) ?_
      rintro h1 v ⟨hh, rfl⟩
      rw [hh, List.length_map]
      refine bX8_listHeld_23 (fun c1 => absurd c1 (nI_ge hlt (by omega))) (fun _ => ?_)
      refine bX8_listHeld_26 ((hat _ _ _ _ _ sne).trans hs) rfl (Or.inr ⟨rfl, _, _, (hat _ _ _ _ _ hne).trans hk⟩) (c_get ok ((hat _ _ _ _ _ hne).trans hk) hx2) ?_
      rintro h1 v ⟨hh, rfl⟩
      rw [hh]
      refine bX8_listHeld_35 (kp _ _ _ hmem.2) rfl (fun c1 => ?_) (fun c1 => ?_)
      · have c2 := (lX_lt (by omega) hhi).mp c1
        refine bX8_listHeld_55 (k_is_o (kp _ _ _ hmem.2)) (c_X4_isHeld ok (kp _ _ _ hmem.2) (r_log_keep kp hL)) ?_
        rintro h1 v ⟨hh, rfl⟩
        rw [hh]
        refine bX8_listHeld_60 (fun c3 => ?_) (fun c3 => ?_)
        · rw [kB_0] at c3
          refine bX8_listHeld_73 ?_
          rw [nI_1]
          refine ih (i + 1) ys c k n (by omega) (by omega) (by omega) hys ?_ hg
          rw [hr, hdrop]
          unfold r_hd
          rw [List.filter_cons_of_neg (by simp [c3])]
        · rw [kB_n0] at c3
          refine bX8_listHeld_63 ((hat _ _ _ _ _ sne).trans hs) rfl (Or.inr ⟨rfl, _, _, k_up_self _ _ _⟩) (c_add ok (k_wf_sk (k_wf_up wh hH)) (k_up_self _ _ _) (by omega) (fun z hz => ?_) (el_key (kp _ _ _ hmem.2))) ?_
          · obtain ⟨y, hy1, rfl⟩ := hys z hz
            exact el_key (kp _ _ _ (k1 y hy1).2)
          rintro h1 v ⟨hh, rfl⟩
          obtain ⟨c', k', n', e1, e2⟩ := add_norm (h := h) (a := aH) (cap := c) (k := k) (n := n) (ys := ys) (zs := ys ++ [x.2]) (c0 := k_l ys c)
          rw [hh, e1]
          refine bX8_listHeld_72 (bX8_listHeld_73 ?_)
          rw [nI_1]
          refine ih (i + 1) (ys ++ [x.2]) c' (k + k') (n + n') (by omega) (by omega) (by simp; omega) (fun z hz => ?_) ?_ (k_gw_trans hg (k_gw_mono (by omega) e2))
          · rcases List.mem_append.mp hz with hz | hz
            · exact hys z hz
            · exact ⟨x, hxm, by simpa using hz⟩
          · rw [hr, hdrop]
            unfold r_hd
            rw [List.filter_cons_of_pos (by simp [c2, c3])]
            simp
      · have c2 : ¬ x.1 < hi := fun z => c1 ((lX_lt (by omega) hhi).mpr z)
        refine bX8_listHeld_50 ((hat _ _ _ _ _ sne).trans hs) rfl ⟨_, rfl, rfl, c, k, n, ?_, hg⟩
        have hnil : r_hd hi L (KS.drop i) = [] := by
          unfold r_hd
          rw [List.map_eq_nil_iff, List.filter_eq_nil_iff]
          intro y hy
          obtain ⟨j, hj⟩ := List.getElem?_of_mem hy
          rw [List.getElem?_drop] at hj
          by_cases e : j = 0
          · subst e
            rw [Nat.add_zero, hx] at hj
            cases hj
            simp [c2]
          · have := r_srt k2 (i := i) (j := i + j) (by omega) hx hj
            have : ¬ y.1 < hi := by omega
            simp [this]
        rw [hr, hnil, List.append_nil]
  exact key _ (r_pl lo KS) [] capH 0 0 rfl (r_pl_le _ _) (by simp) (fun z hz => by cases hz) (by simp [r_held]) ⟨rfl, rfl⟩
end HD
