/-! THE CLASS'S packed -/
def pk_z (a b c k : Int32) : Int32 := if k = 0 then a else if k = 1 then b else if k = 2 then c else 10000
theorem pk_key {a b c : Int32} (hk : s_keyB a b c = true) : s_nm a ∧ ((b = 10000 ∧ c = 10000) ∨ (s_nm b ∧ (c = 10000 ∨ s_nm c))) := by
  unfold s_keyB at hk
  simp only [Bool.and_eq_true, Bool.or_eq_true, decide_eq_true_eq, s_nmB_iff] at hk
  exact hk
theorem pk_at {a b c : Int32} {j : Nat} (hk : s_keyB a b c = true) (hj : j < 2 ^ 31) : (nI j ≤ s_last b c → s_nm (pk_z a b c (nI j)) ∧ s_no (s_cd a b c) (s_pl (nI j)) = pk_z a b c (nI j)) ∧ (¬ nI j ≤ s_last b c → pk_z a b c (nI j) = 10000) := by
  have e0 : nI j = 0 ↔ j = 0 := nI_eq (b := 0) hj (by decide)
  have e1 : nI j = 1 ↔ j = 1 := nI_eq (b := 1) hj (by decide)
  have e2 : nI j = 2 ↔ j = 2 := nI_eq (b := 2) hj (by decide)
  have l0 : nI j ≤ 0 ↔ j ≤ 0 := nI_leI (b := 0) hj (by decide)
  have l1 : nI j ≤ 1 ↔ j ≤ 1 := nI_leI (b := 1) hj (by decide)
  have l2 : nI j ≤ 2 ↔ j ≤ 2 := nI_leI (b := 2) hj (by decide)
  obtain ⟨na, nb, nc⟩ := s_keyB_na hk
  obtain ⟨h1, h2⟩ := pk_key hk
  have z0 : s_no (s_cd a b c) 0 = a := s_no_0 na nb nc
  have z1 : s_no (s_cd a b c) 1 = b := s_no_1 na nb nc
  have z2 : s_no (s_cd a b c) 2 = c := s_no_2 na nb nc
  unfold s_last pk_z s_pl
  by_cases j0 : j = 0
  · have k0 := e0.mpr j0
    rw [if_pos k0, if_pos k0]
    refine ⟨fun _ => ⟨h1, z0⟩, fun h => absurd ?_ h⟩
    split
    · exact l0.mpr (by omega)
    · split
      · exact l1.mpr (by omega)
      · exact l2.mpr (by omega)
  · rw [if_neg (fun z => j0 (e0.mp z)), if_neg (fun z => j0 (e0.mp z))]
    by_cases j1 : j = 1
    · have k1 := e1.mpr j1
      rw [if_pos k1, if_pos k1]
      rcases h2 with ⟨hb, hc⟩ | ⟨hb, hc⟩
      · rw [if_pos hb]
        exact ⟨fun h => absurd (l0.mp h) (by omega), fun _ => hb⟩
      · rw [if_neg (s_nm_ne hb)]
        refine ⟨fun _ => ⟨hb, z1⟩, fun h => absurd ?_ h⟩
        split
        · exact l1.mpr (by omega)
        · exact l2.mpr (by omega)
    · rw [if_neg (fun z => j1 (e1.mp z)), if_neg (fun z => j1 (e1.mp z))]
      by_cases j2 : j = 2
      · rw [if_pos (e2.mpr j2)]
        rcases h2 with ⟨hb, hc⟩ | ⟨hb, hc | hc⟩
        · rw [if_pos hb]
          exact ⟨fun h => absurd (l0.mp h) (by omega), fun _ => hc⟩
        · rw [if_neg (s_nm_ne hb), if_pos hc]
          exact ⟨fun h => absurd (l1.mp h) (by omega), fun _ => hc⟩
        · rw [if_neg (s_nm_ne hb), if_neg (s_nm_ne hc)]
          exact ⟨fun _ => ⟨hc, z2⟩, fun h => absurd (l2.mpr (by omega)) h⟩
      · rw [if_neg (fun z => j2 (e2.mp z))]
        refine ⟨fun h => ?_, fun _ => rfl⟩
        exfalso
        split at h
        · have := l0.mp h; omega
        · split at h
          · have := l1.mp h; omega
          · have := l2.mp h; omega
theorem pk_by {a b c p : Int32} (h : s_nm (pk_z a b c (p / 3))) : s_byte (pk_z a b c (p / 3)) (p - p / 3 * 3) = f_pk a b c p := by
  have e : f_pk a b c p = if pk_z a b c (p / 3) = 10000 then -2147483648 else if p - p / 3 * 3 = 0 then (if 0 ≤ pk_z a b c (p / 3) then 2 else 1) else if p - p / 3 * 3 = 1 then (if 0 ≤ pk_z a b c (p / 3) then pk_z a b c (p / 3) else pk_z a b c (p / 3) + 1000) / 100 else (if 0 ≤ pk_z a b c (p / 3) then pk_z a b c (p / 3) else pk_z a b c (p / 3) + 1000) - (if 0 ≤ pk_z a b c (p / 3) then pk_z a b c (p / 3) else pk_z a b c (p / 3) + 1000) / 100 * 100 := rfl
  rw [e, if_neg (s_nm_ne h)]
  unfold s_byte
  by_cases c0 : pk_z a b c (p / 3) < 0
  · rw [if_pos c0, if_pos c0, if_neg (Int32.not_le.mpr c0), if_neg (Int32.not_le.mpr c0)]
  · rw [if_neg c0, if_neg c0, if_pos (Int32.not_lt.mp c0), if_pos (Int32.not_lt.mp c0)]
section CPK
variable {G : k_G} {l : Launch}
theorem C_packed (ok : k_ok G l) {a N w : Nat} {B : Nat × Nat} {h : k_H} {M : s_M} {a1 b1 c1 p1 : Int32} (W : c_W a B h M N w) : k_ct (tX11_packed G l) [vR (some a), vI a1, vI b1, vI c1, vI p1] h (c_R a B (F_packed M a1 b1 c1 p1) x_3 (N + 1) w) := by
  refine eX11_packed ok.2 (bX11_packed_0 (fun c0 => ?_) (fun c0 => ?_))
  · have c0' : ¬ p1 < 0 := Int32.not_lt.mpr c0
    cases hk : s_keyB a1 b1 c1 with
    | false =>
      refine bX11_packed_15x (x_X11_requireKey ok hk) ?_
      rintro _ rfl
      exact R_x (k := 2) W (by unfold F_packed; rw [if_neg c0', if_pos hk]) (by decide)
    | true =>
      obtain ⟨na, nb, nc⟩ := s_keyB_na hk
      have hp1 : p1 = nI p1.toInt.toNat := nI_ofN (by have := Int32.le_iff_toInt_le.mp c0; simpa using this)
      have hlt : p1.toInt.toNat < 2 ^ 31 := by have := Int32.toInt_lt p1; omega
      have hj : p1 / 3 = nI (p1.toInt.toNat / 3) := by
        have := nI_div (a := p1.toInt.toNat) (b := 3) hlt (by decide)
        rw [← hp1] at this
        exact this
      have key := pk_at (j := p1.toInt.toNat / 3) hk (by omega)
      rw [← hj] at key
      have hF : ∀ v, f_pk a1 b1 c1 p1 = v → F_packed M a1 b1 c1 p1 = (M, 0, v) := fun v hv => by
        unfold F_packed; rw [if_neg c0', if_neg (by rw [hk]; decide), hv]
      refine bX11_packed_15 (c_X11_requireKey ok hk) ?_
      rintro _ hh
      rw [hh]
      refine bX11_packed_21 (c_X11_lastPlace ok) ?_
      rintro _ _ ⟨hh, rfl⟩
      rw [hh]
      refine bX11_packed_30 (fun c2 => ?_) (fun c2 => ?_)
      · obtain ⟨k1, k2⟩ := key.1 c2
        refine bX11_packed_36 (c_X11_codeOf ok na nb nc) ?_
        rintro _ _ ⟨hh, rfl⟩
        rw [hh]
        refine bX11_packed_42 (c_X11_numberOf ok (s_cd_lt na nb nc)) ?_
        rintro _ _ ⟨hh, rfl⟩
        rw [hh, k2]
        refine bX11_packed_49 (c_X11_byteOf ok) ?_
        rintro _ _ ⟨hh, rfl⟩
        rw [hh, pk_by k1]
        exact bX11_packed_56 (R_ok (W_le W (Nat.le_succ _)) (hF _ rfl))
      · have e := key.2 c2
        refine bX11_packed_33 (R_ok (W_le W (Nat.le_succ _)) (hF _ ?_))
        show (if pk_z a1 b1 c1 (p1 / 3) = 10000 then (-2147483648 : Int32) else _) = _
        rw [if_pos e]
  · exact bX11_packed_5 (R_x (k := 1) W (by unfold F_packed; rw [if_pos (Int32.not_le.mp c0)]) (by decide))
end CPK
