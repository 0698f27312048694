/-! THE VERSION GOES ON; a stamped key is forgotten -/
section AD
variable {G : k_G} {l : Launch}
theorem c_X8_advance (ok : k_ok G l) {h : k_H} {s n m : Nat} {f0 f1 f2 f3 f4 f5 : k_V} (hs : h.1 s = some (k_o 11 [f0, f1, f2, f3, f4, f5, vI (nI n)])) (hn : n + m ≤ 9000) : k_ctv (tX8_advance G l) [vR (some s), vI (nI m)] h (fun h' => h' = k_up h s (k_o 11 [f0, f1, f2, f3, f4, f5, vI (nI (n + m))])) := by
  have e : (if 9000 < (nI n + nI m) then 9000 else (nI n + nI m)) = nI (n + m) := by
    rw [nI_add]
    exact if_neg (nI_nlt (b := n + m) (a := 9000) hn (by decide))
  refine k_ctv_of (eX8_advance ok.2 (bX8_advance_0 hs rfl rfl (bX8_advance_16 ⟨rfl, ?_⟩)))
  rw [e]
  rfl
end AD
