/-! THE CLASS'S FIRST WORLD -/
def c_f0 (a : Nat) : List (Option k_C) := [some (k_o 14 [vR (some (a + 1)), vR (some (a + 6)), vR (some (a + 10)), vR (some (a + 11)), vR (some (a + 12)), vR (some (a + 13)), vR (some (a + 14)), vR (some (a + 15)), vI 0, vI 0, vI 0, vI (-2147483648), vI 0]), some (k_o 11 [vR (some (a + 2)), vR (some (a + 3)), vR (some (a + 4)), vR (some (a + 5)), vI 0, vR none, vI 0]), some (k_l [] 0), some (k_l [] 0), some (k_l [] 0), some (k_o 3 [vI 0, vI 0, vI 0]), some (k_o 9 [vR (some (a + 7))]), some (k_l [a + 8] 10), some (k_o 8 [vJ 0, vI 0, vI 0]), none, some (k_o 3 [vI 0, vI 0, vI 0]), some (k_l [a + 16, a + 20, a + 23, a + 26] 10), some (k_l [] 0), some (k_l [a + 29] 10), some (k_l [] 0), some (k_i 10 (fun _ => 0)), some (k_o 12 [vR (some (a + 17)), vR (some (a + 18)), vI 0, vI 0, vI 0, vI 0, vI (-2147483648), vI 0]), some (k_l [] 0), some (k_l [] 0), none, some (k_o 12 [vR (some (a + 21)), vR (some (a + 22)), vI 0, vI 0, vI 0, vI 0, vI (-2147483648), vI 0]), some (k_l [] 0), some (k_l [] 0), some (k_o 12 [vR (some (a + 24)), vR (some (a + 25)), vI 0, vI 0, vI 0, vI 0, vI (-2147483648), vI 0]), some (k_l [] 0), some (k_l [] 0), some (k_o 12 [vR (some (a + 27)), vR (some (a + 28)), vI 0, vI 0, vI 0, vI 0, vI (-2147483648), vI 0]), some (k_l [] 0), some (k_l [] 0), some (k_o 5 [vI 0, vI 0, vR none, vI 0]), none]
theorem c_T_cases {t : Nat} (h : t < 4) : t = 0 ∨ t = 1 ∨ t = 2 ∨ t = 3 := by omega
theorem kcp_0 (a : Nat) : ∀ i, i < 31 → ∀ (h : k_H), kcp ((c_in a (c_f0 a) 141 h).1 (a + i)) ≤ k_bd i := by
  intro i hi h
  have e : (c_in a (c_f0 a) 141 h).1 (a + i) = (c_f0 a).getD i none := by
    show (if a ≤ a + i ∧ a + i < a + (c_f0 a).length then (c_f0 a).getD (a + i - a) none else h.1 (a + i)) = _
    rw [if_pos ⟨by omega, by show a + i < a + 31; omega⟩, Nat.add_sub_cancel_left]
  rw [e]
  have : i = 0 ∨ i = 1 ∨ i = 2 ∨ i = 3 ∨ i = 4 ∨ i = 5 ∨ i = 6 ∨ i = 7 ∨ i = 8 ∨ i = 9 ∨ i = 10 ∨ i = 11 ∨ i = 12 ∨ i = 13 ∨ i = 14 ∨ i = 15 ∨ i = 16 ∨ i = 17 ∨ i = 18 ∨ i = 19 ∨ i = 20 ∨ i = 21 ∨ i = 22 ∨ i = 23 ∨ i = 24 ∨ i = 25 ∨ i = 26 ∨ i = 27 ∨ i = 28 ∨ i = 29 ∨ i = 30 := by omega
  rcases this with rfl | rfl | rfl | rfl | rfl | rfl | rfl | rfl | rfl | rfl | rfl | rfl | rfl | rfl | rfl | rfl | rfl | rfl | rfl | rfl | rfl | rfl | rfl | rfl | rfl | rfl | rfl | rfl | rfl | rfl | rfl
  · exact Nat.le_of_ble_eq_true rfl
  · exact Nat.le_of_ble_eq_true rfl
  · exact Nat.le_of_ble_eq_true rfl
  · exact Nat.le_of_ble_eq_true rfl
  · exact Nat.le_of_ble_eq_true rfl
  · exact Nat.le_of_ble_eq_true rfl
  · exact Nat.le_of_ble_eq_true rfl
  · exact Nat.le_of_ble_eq_true rfl
  · exact Nat.le_of_ble_eq_true rfl
  · exact Nat.le_of_ble_eq_true rfl
  · exact Nat.le_of_ble_eq_true rfl
  · exact Nat.le_of_ble_eq_true rfl
  · exact Nat.le_of_ble_eq_true rfl
  · exact Nat.le_of_ble_eq_true rfl
  · exact Nat.le_of_ble_eq_true rfl
  · exact Nat.le_of_ble_eq_true rfl
  · exact Nat.le_of_ble_eq_true rfl
  · exact Nat.le_of_ble_eq_true rfl
  · exact Nat.le_of_ble_eq_true rfl
  · exact Nat.le_of_ble_eq_true rfl
  · exact Nat.le_of_ble_eq_true rfl
  · exact Nat.le_of_ble_eq_true rfl
  · exact Nat.le_of_ble_eq_true rfl
  · exact Nat.le_of_ble_eq_true rfl
  · exact Nat.le_of_ble_eq_true rfl
  · exact Nat.le_of_ble_eq_true rfl
  · exact Nat.le_of_ble_eq_true rfl
  · exact Nat.le_of_ble_eq_true rfl
  · exact Nat.le_of_ble_eq_true rfl
  · exact Nat.le_of_ble_eq_true rfl
  · exact Nat.le_of_ble_eq_true rfl
theorem W_0 {a : Nat} {h : k_H} (wh : k_wf h) (hn : h.2.1 = a + 1) : c_W a (a + 31, h.2.2 + 141) (c_in a (c_f0 a) 141 h) g_0 0 0 := by
  have wf : k_wf (c_in a (c_f0 a) 141 h) := ci_wf wh (by rw [hn]; show a + 1 ≤ a + 31; omega)
  have ge : a + 31 ≤ (c_in a (c_f0 a) 141 h).2.1 := Nat.le_refl _
  have at0 : ∀ (i : Nat) (c : k_C), (c_f0 a)[i]? = some (some c) → (c_in a (c_f0 a) 141 h).1 (a + i) = some c := fun i c e => ci_at e
  have hX : c_TX a (c_in a (c_f0 a) 141 h) (g_X g_0) (g_ser g_0) 0 := by
    refine ⟨fun _ => [], fun t ht => ?_, fun t u _ _ _ y hy => (by cases hy), ge, wf⟩
    have fin : ∀ o : Nat, (c_f0 a)[o]? = some (some (k_o 12 [vR (some (a + (o + 1))), vR (some (a + (o + 2))), vI 0, vI 0, vI 0, vI 0, vI (-2147483648), vI 0])) → (c_f0 a)[o + 1]? = some (some (k_l [] 0)) → (c_f0 a)[o + 2]? = some (some (k_l [] 0)) → c_T t = o → c_tb a (c_in a (c_f0 a) 141 h) t [] (g_X g_0 t) (g_ser g_0) 0 := fun o e1 e2 e3 eo => by
      refine ⟨[], 0, 0, 0, ?_, ⟨⟨?_, fun x hx => (by cases hx), by decide⟩, ⟨?_, fun x hx => (by cases hx), by decide⟩, List.Pairwise.nil⟩, fun z => (by cases z)⟩
      · rw [eo]; exact at0 o _ e1
      · rw [eo]; exact at0 (o + 1) _ e2
      · rw [eo]; exact at0 (o + 2) _ e3
    rcases c_T_cases ht with rfl | rfl | rfl | rfl
    · exact fin 16 rfl rfl rfl rfl
    · exact fin 20 rfl rfl rfl rfl
    · exact fin 23 rfl rfl rfl rfl
    · exact fin 26 rfl rfl rfl rfl
  have hs : c_sE a (c_in a (c_f0 a) 141 h) (g_E g_0) (g_n g_0) [] 0 := by
    refine ⟨[], [], [], (none, false), ⟨0, 0, 0, [], fun _ => 0, ⟨at0 1 _ rfl, at0 2 _ rfl, at0 3 _ rfl, at0 4 _ rfl, at0 5 _ rfl⟩, ⟨⟨fun x hx => (by cases hx), List.Pairwise.nil, by decide⟩, fun x hx => (by cases hx), trivial, fun x hx => (by cases hx)⟩, ⟨fun x hx => (by cases hx), List.Pairwise.nil, List.Pairwise.nil⟩, fun x hx => (by cases hx), ⟨by decide, ge, wf⟩⟩, ⟨⟨fun _ _ => rfl, fun d v => ⟨fun ⟨x, hx, _⟩ => (by cases hx), fun ⟨x, hx, _⟩ => (by cases hx)⟩, Nat.le_refl _⟩, ⟨fun y hy => (by cases hy), Nat.le_refl _⟩, rfl, fun x hx => (by cases hx), List.Pairwise.nil⟩, ⟨fun q hq => (by cases hq), by decide⟩, rfl⟩
  have hp : c_pa a (c_in a (c_f0 a) 141 h) [(a + 8, 0, 0, 0)] := by
    refine ⟨at0 6 _ rfl, ⟨10, at0 7 _ rfl, fun x hx => ?_, by simp⟩, List.pairwise_singleton _ _, ge, wf⟩
    rw [List.mem_singleton.mp hx]
    exact ⟨at0 8 _ rfl, (show 0 < 2 ^ 62 by decide), (show 0 < 2 ^ 30 by decide)⟩
  refine ⟨[], 0, [(a + 8, 0, 0, 0)], hs, ⟨hX, hp, at0 0 _ rfl, ⟨⟨(none, false), at0 10 _ rfl⟩, ⟨10, at0 11 _ rfl⟩, [], 0, at0 12 _ rfl⟩, ⟨fun _ => 0, at0 15 _ rfl, fun i v hv => (by cases hv)⟩, ⟨fun _ => a + 29, 10, at0 13 _ rfl, fun x hx => ?_, fun x hx y hy _ => ?_⟩, [], 0, at0 14 _ rfl, ⟨rfl, rfl, List.Pairwise.nil⟩, fun i b w q hb => (by cases hb)⟩, ⟨rfl, ⟨rfl, trivial⟩⟩, ⟨?_, ?_, fun i hi => kcp_0 a i hi h⟩⟩
  · have hx : x ∈ [((0, none, 0, 0) : s_D)] := hx
    rw [List.mem_singleton.mp hx]
    exact at0 29 _ rfl
  · have hx : x ∈ [((0, none, 0, 0) : s_D)] := hx
    have hy : y ∈ [((0, none, 0, 0) : s_D)] := hy
    rw [List.mem_singleton.mp hx, List.mem_singleton.mp hy]
  · show a + 31 ≤ a + 31 + _ + _
    omega
  · show h.2.2 + 141 ≤ h.2.2 + 141 + _ + _
    omega
