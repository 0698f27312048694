/-! LEASES -/
section LE
variable {G : k_G} {l : Launch}
/-- who holds a lease -/
def s_hold (lease now : Int32) : Int32 := if lease = -2147483648 then -2147483648 else if now < lease - lease / 10000 * 10000 then lease / 10000 else -2147483648
theorem c_X11_holderOf (ok : k_ok G l) {h : k_H} {a s : Nat} {x now : Int32} {gs : List k_V} {f0 f1 f2 f3 f4 f5 : k_V} (ha : h.1 a = some (k_o 14 (vR (some s) :: gs))) (hs : h.1 s = some (k_o 11 [f0, f1, f2, f3, f4, f5, vI now])) : k_cti (tX11_holderOf G l) [vR (some a), vI x] h (fun h' v => h' = h ∧ v = s_hold x now) := by
  refine k_cti_of (eX11_holderOf ok.2 (bX11_holderOf_0 (fun c1 => ?_) (fun c1 => ?_)))
  · refine bX11_holderOf_21 ⟨_, rfl, rfl, ?_⟩
    unfold s_hold
    rw [if_pos c1]
  · refine bX11_holderOf_6 ha rfl hs rfl (fun c2 => ?_) (fun c2 => ?_)
    · refine bX11_holderOf_24 ⟨_, rfl, rfl, ?_⟩
      unfold s_hold
      rw [if_neg c1, if_pos c2]
    · refine bX11_holderOf_21 ⟨_, rfl, rfl, ?_⟩
      unfold s_hold
      rw [if_neg c1, if_neg c2]
theorem c_X11_leaseOf (ok : k_ok G l) {h : k_H} {a c : Nat} {f1 : k_V} (ha : h.1 a = some (k_o 7 [vJ (lN c), f1])) (hc : c < 1331000000000) : k_ctj (tX11_leaseOf G l) [vR (some a)] h (fun h' v => h' = h ∧ v = lN (s_cd (-7) (s_no c 1) 10000)) := by
  refine k_ctj_of (eX11_leaseOf ok.2 (bX11_leaseOf_0 ha rfl (c_X11_numberOf ok hc) ?_))
  rintro h1 v ⟨hh, rfl⟩
  rw [hh]
  refine bX11_leaseOf_10 (c_X11_codeOf_ ok (s_naB (by decide)) (s_no_na _ _)) ?_
  rintro h1 v ⟨hh, rfl⟩
  rw [hh]
  exact bX11_leaseOf_13 ⟨_, rfl, rfl, rfl⟩
end LE
