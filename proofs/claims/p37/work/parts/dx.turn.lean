/-! ONE TURN: which call -/
section LX
variable {G : k_G} {l : Launch} {a i q n t x ka hw : Nat} {A : lp_A} {M M0 : s_M} {H : k_H} {h0 : k_H} {Q : k_H → k_R → Prop} {z9 y9 kb : Int32}
theorem lc_how (ok : k_ok G l) (g0 : k_fh G = 0) (W : lp_X a A i q M H) (hi : i + 2 < 512) (L : L_5 A M) (Lw : L_w A M) (ht : t < 3) (hx : x < 2 ^ 31) (hk : ka < 8) (hb : kb = 10000 ∨ kb = 0 ∨ kb = 1) (hM : M0 = M) (K : ∀ H' A' M', lp_X a A' (i + 2) (q + 10) M' H' → L_P A M A' M' → k_X (jL_law G l h0) H' 1968 [(0, vR (some (k_sb G))), (1, vR (some a)), (2, vR (some (a + 31 + 0))), (3, vR (some (a + 31 + 1))), (4, vR (some (a + 31 + 2))), (5, vR (some (a + 31 + 3))), (6, vR (some (a + 31 + 4))), (7, vI 1), (8, vI (nI n)), (9, vI z9), (11, vI y9), (17, vI (nI (g_n M0)))] [] Q) : k_X (jL_law G l h0) H 181 [(0, vR (some (k_sb G))), (1, vR (some a)), (2, vR (some (a + 31 + 0))), (3, vR (some (a + 31 + 1))), (4, vR (some (a + 31 + 2))), (5, vR (some (a + 31 + 3))), (6, vR (some (a + 31 + 4))), (7, vI 1), (8, vI (nI n)), (9, vI z9), (10, vI (nI hw)), (11, vI y9), (12, vI (nI t)), (13, vI (nI (5 * t))), (14, vI (nI x)), (15, vI (nI ka)), (16, vI kb), (17, vI (nI (g_n M0)))] [] Q := by
  have i2 : vp_in 2 5 := in_5 (k := 2) (by omega)
  have i3 : vp_in 3 5 := in_5 (k := 3) (by omega)
  have mk10 : (g_MK M).length ≤ 10 := by
    obtain ⟨i', N, w, h, I⟩ := X_I W
    exact (lp_env I (by omega)).2.2.2.1.2.1
  have dl := (X_d W (by omega)).2.2.1
  have m2 : A 0 ((2 : Int32).toNatClampNeg) = nI (g_MK M).length := L.1.2.2.1
  have m3 : A 0 ((3 : Int32).toNatClampNeg) = nI (g_DS M).2 := L.1.2.2.2
  have mv : k_X (jL_law G l h0) H 1913 [(0, vR (some (k_sb G))), (1, vR (some a)), (2, vR (some (a + 31 + 0))), (3, vR (some (a + 31 + 1))), (4, vR (some (a + 31 + 2))), (5, vR (some (a + 31 + 3))), (6, vR (some (a + 31 + 4))), (8, vI (nI n)), (9, vI z9), (11, vI y9), (14, vI (nI x)), (17, vI (nI (g_n M0)))] [] Q := lc_move ok g0 W hi L Lw hx hM K
  have p1804 : k_X (jL_law G l h0) H 1804 [(0, vR (some (k_sb G))), (1, vR (some a)), (2, vR (some (a + 31 + 0))), (3, vR (some (a + 31 + 1))), (4, vR (some (a + 31 + 2))), (5, vR (some (a + 31 + 3))), (6, vR (some (a + 31 + 4))), (8, vI (nI n)), (9, vI z9), (10, vI (nI hw)), (11, vI y9), (14, vI (nI x)), (17, vI (nI (g_n M0)))] [] Q := by
    refine bL_law_1804 (fun _ => mv) (fun _ => bL_law_1811 (X_atom (j := 0) W (by decide)) i3 (fun _ => mv) (fun c => lc_remove ok g0 W hi L Lw hx ?_ hM K))
    rw [m3] at c
    exact Nat.lt_of_not_le fun z => c ((nI_leI (b := 1) (by omega) (by omega)).mpr z)
  have p1671 : k_X (jL_law G l h0) H 1671 [(0, vR (some (k_sb G))), (1, vR (some a)), (2, vR (some (a + 31 + 0))), (3, vR (some (a + 31 + 1))), (4, vR (some (a + 31 + 2))), (5, vR (some (a + 31 + 3))), (6, vR (some (a + 31 + 4))), (8, vI (nI n)), (9, vI z9), (10, vI (nI hw)), (11, vI y9), (14, vI (nI x)), (17, vI (nI (g_n M0)))] [] Q :=
    bL_law_1671 (fun _ => p1804) (fun _ => lc_dir ok g0 W hi L Lw hx hM K)
  have p1558 : k_X (jL_law G l h0) H 1558 [(0, vR (some (k_sb G))), (1, vR (some a)), (2, vR (some (a + 31 + 0))), (3, vR (some (a + 31 + 1))), (4, vR (some (a + 31 + 2))), (5, vR (some (a + 31 + 3))), (6, vR (some (a + 31 + 4))), (8, vI (nI n)), (9, vI z9), (10, vI (nI hw)), (11, vI y9), (14, vI (nI x)), (17, vI (nI (g_n M0)))] [] Q := by
    refine bL_law_1558 (fun _ => p1671) (fun _ => bL_law_1565 (X_atom (j := 0) W (by decide)) i2 (fun _ => p1671) (fun c => lc_back ok g0 W hi L Lw hx ?_ hM K))
    rw [m2] at c
    exact Nat.lt_of_not_le fun z => c ((nI_leI (b := 0) (by omega) (by omega)).mpr z)
  exact bL_law_181
    (fun _ => bL_law_253
      (fun _ => bL_law_397
        (fun _ => bL_law_548
          (fun _ => bL_law_568
            (fun _ => bL_law_844
              (fun _ => bL_law_971
                (fun _ => bL_law_1050
                  (fun _ => bL_law_1146
                    (fun _ => bL_law_1296
                      (fun _ => bL_law_1374
                        (fun _ => bL_law_1402
                          (fun _ => bL_law_1490 (fun _ => p1558) (fun _ => lc_mark ok g0 W hi L Lw hM K))
                          (fun _ => lc_watch ok g0 W hi L Lw hk hb hM K))
                        (fun _ => lc_lose ok g0 W hi L Lw hx hM K))
                      (fun _ => lc_pass ok g0 W hi L Lw hx hM K))
                    (fun _ => lc_take ok g0 W hi L Lw hx hM K))
                  (fun _ => lc_offer ok g0 W hi L Lw ht hx hM K))
                (fun _ => lc_off ok g0 W hi L Lw hx hM K))
              (fun _ => lc_build ok g0 W hi L Lw hx hM K))
            (fun _ => lc_save ok g0 W hi L Lw ht hx hM K))
          (fun _ => lc_commit ok g0 W hi L Lw ht hM K))
        (fun _ => lc_change ok g0 W hi L Lw ht hx hk hb hM K))
      (fun _ => lc_read ok g0 W hi L Lw ht hx hk hb hM K))
    (fun _ => lc_begin ok g0 W hi L Lw ht hx hM K)
/-- .. from the dice on -/
theorem lc_dice {zz : Nat} (ok : k_ok G l) (g0 : k_fh G = 0) (W : lp_X a A i q M H) (hi : i + 2 < 512) (L : L_5 A M) (Lw : L_w A M) (hz : zz < 2 ^ 31) (hM : M0 = M)
    (K : ∀ H' A' M', lp_X a A' (i + 2) (q + 10) M' H' → L_P A M A' M' → k_X (jL_law G l h0) H' 1968 [(0, vR (some (k_sb G))), (1, vR (some a)), (2, vR (some (a + 31 + 0))), (3, vR (some (a + 31 + 1))), (4, vR (some (a + 31 + 2))), (5, vR (some (a + 31 + 3))), (6, vR (some (a + 31 + 4))), (7, vI 1), (8, vI (nI n)), (9, vI (nI zz)), (11, vI (nI (zz / 40))), (17, vI (nI (g_n M0)))] [] Q) : k_X (jL_law G l h0) H 110 [(0, vR (some (k_sb G))), (1, vR (some a)), (2, vR (some (a + 31 + 0))), (3, vR (some (a + 31 + 1))), (4, vR (some (a + 31 + 2))), (5, vR (some (a + 31 + 3))), (6, vR (some (a + 31 + 4))), (7, vI 1), (8, vI (nI n))] [vI (nI zz)] Q := by
  have l40 : zz / 40 < 2 ^ 31 := Nat.lt_of_le_of_lt (Nat.div_le_self _ _) hz
  have hx : zz / 40 / 3 < 2 ^ 31 := Nat.lt_of_le_of_lt (Nat.div_le_self _ _) l40
  have l8 : zz / 40 / 3 / 8 < 2 ^ 31 := Nat.lt_of_le_of_lt (Nat.div_le_self _ _) hx
  have l24 : zz / 40 / 3 / 24 < 2 ^ 31 := Nat.lt_of_le_of_lt (Nat.div_le_self _ _) hx
  have d40 : nI zz / 40 = nI (zz / 40) := nI_div hz (by decide)
  have d3 : nI (zz / 40) / 3 = nI (zz / 40 / 3) := nI_div l40 (by decide)
  have d24 : nI (zz / 40 / 3) / 24 = nI (zz / 40 / 3 / 24) := nI_div hx (by decide)
  have r40 : nI zz - (nI zz / 40) * 40 = nI (zz % 40) := rf_rem hz (by decide)
  have r3 : nI (zz / 40) - (nI (zz / 40) / 3) * 3 = nI (zz / 40 % 3) := rf_rem l40 (by decide)
  have r8 : nI (zz / 40 / 3) - (nI (zz / 40 / 3) / 8) * 8 = nI (zz / 40 / 3 % 8) := rf_rem hx (by decide)
  have r2 : nI (zz / 40 / 3 / 24) - (nI (zz / 40 / 3 / 24) / 2) * 2 = nI (zz / 40 / 3 / 24 % 2) := rf_rem l24 (by decide)
  have e5 : (5 : Int32) * nI (zz / 40 % 3) = nI (5 * (zz / 40 % 3)) := rf_mul 5 _
  have m0 : A 0 ((0 : Int32).toNatClampNeg) = nI (g_n M) := L.1.1
  have go : ∀ b : Int32, (b = 10000 ∨ b = 0 ∨ b = 1) → k_X (jL_law G l h0) H 174 [(0, vR (some (k_sb G))), (1, vR (some a)), (2, vR (some (a + 31 + 0))), (3, vR (some (a + 31 + 1))), (4, vR (some (a + 31 + 2))), (5, vR (some (a + 31 + 3))), (6, vR (some (a + 31 + 4))), (7, vI 1), (8, vI (nI n)), (9, vI (nI zz)), (10, vI (nI (zz % 40))), (11, vI (nI (zz / 40))), (12, vI (nI (zz / 40 % 3))), (13, vI (nI (5 * (zz / 40 % 3)))), (14, vI (nI (zz / 40 / 3))), (15, vI (nI (zz / 40 / 3 % 8)))] [vI b] Q := by
    intro b hb
    refine bL_law_174 (bL_law_176 (X_atom (j := 0) W (by decide)) (in_5 (k := 0) (by omega)) ?_)
    rw [m0, ← hM]
    exact lc_how ok g0 W hi L Lw (Nat.mod_lt _ (by omega)) hx (Nat.mod_lt _ (by omega)) hb hM K
  refine bL_law_110 (bL_law_112 ?_)
  rw [r40]
  refine bL_law_119 ?_
  rw [d40]
  refine bL_law_126 ?_
  rw [r3]
  refine bL_law_132 ?_
  rw [e5]
  refine bL_law_138 ?_
  rw [d3]
  refine bL_law_144 ?_
  rw [r8]
  refine bL_law_151 (fun _ => bL_law_167 ?_) (fun _ => bL_law_161 (go _ (Or.inl rfl)))
  rw [d24, r2]
  have h2 : zz / 40 / 3 / 24 % 2 < 2 := Nat.mod_lt _ (by omega)
  generalize zz / 40 / 3 / 24 % 2 = u at h2
  have : u = 0 ∨ u = 1 := by omega
  rcases this with rfl | rfl
  · exact go _ (Or.inr (Or.inl rfl))
  · exact go _ (Or.inr (Or.inr rfl))
end LX
