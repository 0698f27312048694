/-! ISREFUSED, its whole -/
/-- the law's first row; what it says of transactions begun -/
def L_m (A : lp_A) (M : s_M) : Prop := A 0 0 = nI (g_n M) ∧ A 0 1 = nI (g_WT M).length ∧ A 0 2 = nI (g_MK M).length ∧ A 0 3 = nI (g_DS M).2
def L_b (A : lp_A) (M : s_M) : Prop := ∀ k, k < 4 → A 1 (5 * k) = kB (g_X M k).1.1
theorem tN {n : Nat} (h : n < 2 ^ 31) : (nI n).toNatClampNeg = n := by
  show (nI n).toInt.toNat = n
  rw [nI_toInt h]
  rfl
theorem t_nI {n : Nat} (h : n < 2 ^ 31) : t_of (nI n) = n := by
  unfold t_of
  rw [nI_toInt h]
  rfl
section RF2
variable {G : k_G} {l : Launch} {a i q : Nat} {A : lp_A} {M : s_M} {H : k_H}
theorem in_4 {k : Nat} (h : k < 4) : ¬ s_inB (nI k) 0 3 = false := (by decide +kernel : ∀ k, k < 4 → ¬ s_inB (nI k) 0 3 = false) k h
theorem rf_t {k : Nat} (hk : k < 4) (hb : (g_X M k).1.1 = false) : F_get M (nI k) 5 5 5 (decide ((1 : Int32) = 1)) = (M, 3, 0) ∧ F_change M (nI k) 0 5 5 5 0 = (M, 3, 0) ∧ F_commit M (nI k) = (M, 2, 0) ∧ F_save M (nI k) 5 5 = (M, 3, 0) ∧ F_offer M (nI k) 5 = (M, 3, 0) := by
  have h1 := in_4 hk
  have t1 : t_of (nI k) = k := t_nI (by omega)
  have sh : g_shut M k = true := by unfold g_shut; rw [hb]; rfl
  refine ⟨?_, ?_, ?_, ?_, ?_⟩
  · unfold F_get; rw [if_neg h1, if_neg (by decide +kernel), t1, if_pos hb]
  · unfold F_change; rw [if_neg h1, if_neg (by decide +kernel), t1, if_pos sh]
  · unfold F_commit; rw [if_neg h1, t1, if_pos hb]
  · unfold F_save F_saved; rw [if_neg h1, if_neg (by decide +kernel), t1, sh, Bool.true_or, if_pos rfl]
  · unfold F_offer; rw [if_neg h1, if_neg (by decide +kernel), t1, if_pos sh]
theorem X_isRefused (ok : k_ok G l) (g0 : k_fh G = 0) (W : lp_X a A i q M H) (hi : i + 21 < 512) {z : Nat} (hz : z < 2 ^ 31) (hm : L_m A M) (hb : L_b A M) :
    k_cti (tL_isRefused G l) [vR (some a), vR (some (a + 31 + 0)), vR (some (a + 31 + 1)), vI (nI z)] H (fun H' v => lp_X a A (i + 21) (q + 300) M H' ∧ v = 1) := by
  have e30 : nI z - (nI z / 30) * 30 = nI (z % 30) := rf_rem hz (by decide)
  have e7 : nI z - (nI z / 7) * 7 = nI (z % 7) := rf_rem hz (by decide)
  have e3 : nI z - (nI z / 3) * 3 = nI (z % 3) := rf_rem hz (by decide)
  have e2 : nI z - (nI z / 2) * 2 = nI (z % 2) := rf_rem hz (by decide)
  have hj : z % 30 < 30 := Nat.mod_lt _ (by omega)
  have hu : z % 7 < 7 := Nat.mod_lt _ (by omega)
  have hw : z % 3 < 3 := Nat.mod_lt _ (by omega)
  obtain ⟨m0, m1, m2, m3⟩ := hm
  have d := X_d W (by omega)
  have e := X_e W (by omega)
  have pt := X_pt W (by omega)
  have p0 : 0 < (g_PT M).length := List.length_pos_iff.mpr pt.1.2
  obtain ⟨w20, m10⟩ : (g_WT M).length ≤ 20 ∧ (g_MK M).length ≤ 10 := by
    obtain ⟨i', N, w, h, I⟩ := X_I W
    have := (lp_env I (by omega)).2.2.2.1
    exact ⟨this.2.2, this.2.1⟩
  have n9 : g_n M < 9000 := by have := e.2.2.1; omega
  have tail : ∀ H, lp_X a A (i + 13) (q + 200) M H → ∀ h0, k_X (jL_isRefused G l h0) H 1429 [(0, vR (some a)), (1, vR (some (a + 31 + 0))), (2, vR (some (a + 31 + 1))), (7, vJ (al_P M (g_PT M).length)), (9, vI 1), (10, vI 0)] [] (q_i (fun H' v => lp_X a A (i + 21) (q + 300) M H' ∧ v = 1)) := by
    intro H W h0
    have loop : ∀ (c k : Nat) (H : k_H), k + c = 4 → lp_X a A (i + 13 + 2 * k) (q + 200 + 6 * k) M H → k_X (jL_isRefused G l h0) H 1429 [(0, vR (some a)), (1, vR (some (a + 31 + 0))), (2, vR (some (a + 31 + 1))), (7, vJ (al_P M (g_PT M).length)), (9, vI 1), (10, vI (nI k))] [] (q_i (fun H' v => lp_X a A (i + 21) (q + 300) M H' ∧ v = 1)) := by
      intro c
      induction c with
      | zero =>
        intro k H hk W
        have ek : k = 4 := by omega
        subst ek
        refine bL_isRefused_1429 (fun _ => bL_isRefused_1551 (fun c => absurd c (by decide)) (fun _ => bL_isRefused_1556 (X_all ok g0 W (by omega)) ?_)) (fun c => absurd (by decide) c)
        rintro H2 _ ⟨W2, rfl⟩
        exact bL_isRefused_1561 (fun c => absurd rfl c) (fun _ => bL_isRefused_1567 (bL_isRefused_1572 (Or.inr rfl) ⟨_, rfl, lp_Xm W2 (by omega) (by omega), rfl⟩))
      | succ c ih =>
        intro k H hk W
        have next : ∀ H, lp_X a A (i + 13 + 2 * (k + 1)) (q + 200 + 6 * (k + 1)) M H → k_X (jL_isRefused G l h0) H 1538 [(0, vR (some a)), (1, vR (some (a + 31 + 0))), (2, vR (some (a + 31 + 1))), (7, vJ (al_P M (g_PT M).length)), (10, vI (nI k))] [] (q_i (fun H' v => lp_X a A (i + 21) (q + 300) M H' ∧ v = 1)) := by
          intro H W
          refine bL_isRefused_1538 (bL_isRefused_1543 ?_)
          rw [show nI k + 1 = nI (k + 1) from nI_add k 1]
          exact ih (k + 1) H (by omega) W
        have e5 : (5 : Int32) * nI k = nI (5 * k) := rf_mul 5 k
        refine bL_isRefused_1429 (fun c => absurd ((nI_leI (a := 4) (by omega) (by omega)).mp c) (by omega)) (fun _ => bL_isRefused_1435 (fun c => absurd c (by decide)) (fun _ => bL_isRefused_1440 (X_atom (j := 1) W (by decide)) (by rw [e5]; exact rf_in (n := 20) (by omega) (by omega)) (fun _ => next H (lp_Xm W (by omega) (by omega))) (fun c => ?_)))
        rw [e5, tN (by omega), hb k (by omega)] at c
        have fb : (g_X M k).1.1 = false := by
          cases e : (g_X M k).1.1 with
          | false => rfl
          | true => exact absurd (by rw [e]; rfl) c
        obtain ⟨f1, f2, f3, f4, f5⟩ := rf_t (M := M) (k := k) (by omega) fb
        refine bL_isRefused_1450 (r_1 ok g0 W (by omega) f1 (by decide)) ?_
        rintro H _ ⟨W, rfl⟩
        refine bL_isRefused_1462 (fun c => absurd rc_7 c) (fun _ => bL_isRefused_1467 (r_4 ok g0 W (by omega) f2 (by decide)) ?_)
        rintro H _ ⟨W, rfl⟩
        refine bL_isRefused_1479 (fun c => absurd rc_7 c) (fun _ => bL_isRefused_1484 (r_6 ok g0 W (by omega) f3 (by decide)) ?_)
        rintro H _ ⟨W, rfl⟩
        refine bL_isRefused_1497 (fun c => absurd rc_6 c) (fun _ => bL_isRefused_1502 (r_10 ok g0 W (by omega) f4 (by decide)) ?_)
        rintro H _ ⟨W, rfl⟩
        refine bL_isRefused_1515 (fun c => absurd rc_7 c) (fun _ => bL_isRefused_1520 (r_18 ok g0 W (by omega) f5 (by decide)) ?_)
        rintro H _ ⟨W, rfl⟩
        exact bL_isRefused_1533 (fun c => absurd rc_7 c) (fun _ => next H (lp_Xm W (by omega) (by omega)))
    exact loop 4 0 H rfl W
  refine k_cti_of (eL_isRefused ok.2 (bL_isRefused_0 (fun c => ?_) (fun c => ?_)))
  · refine bL_isRefused_10 (bL_isRefused_11 (fun _ => bL_isRefused_27 (bL_isRefused_33 (fun _ => bL_isRefused_51 ?_) (fun c => absurd rfl c))) (fun c => absurd rfl c))
    rw [e30]
    refine bL_isRefused_59 (X_all ok g0 W (by omega)) ?_
    rintro H1 _ ⟨W1, rfl⟩
    exact ir0_0 ok g0 hj hu hw e30 e7 e3 m0 m1 m2 m3 d.1 n9 w20 m10 p0 pt.2.2.1 d.2.2.1 (by omega) W1 (fun H2 W2 => ir0_1 ok g0 hj hu hw e30 e7 e3 m0 m1 m2 m3 d.1 n9 w20 m10 p0 pt.2.2.1 d.2.2.1 (by omega) W2 (fun H3 W3 => ir0_2 ok g0 hj hu hw e30 e7 e3 m0 m1 m2 m3 d.1 n9 w20 m10 p0 pt.2.2.1 d.2.2.1 (by omega) W3 (fun H4 W4 => bL_isRefused_1424 (tail H4 (lp_Xm W4 (by omega) (by omega)) H))))
  · refine bL_isRefused_6 (bL_isRefused_11 (fun c => absurd c (by decide)) (fun _ => bL_isRefused_18 (bL_isRefused_33 (fun c => absurd c (by decide)) (fun _ => bL_isRefused_40 ?_))))
    rw [e30]
    refine bL_isRefused_59 (X_all ok g0 W (by omega)) ?_
    rintro H1 _ ⟨W1, rfl⟩
    exact ir1_0 ok g0 hj hu hw e30 e7 e3 m0 m1 m2 m3 d.1 n9 w20 m10 p0 pt.2.2.1 d.2.2.1 (by omega) W1 (fun H2 W2 => ir1_1 ok g0 hj hu hw e30 e7 e3 m0 m1 m2 m3 d.1 n9 w20 m10 p0 pt.2.2.1 d.2.2.1 (by omega) W2 (fun H3 W3 => ir1_2 ok g0 hj hu hw e30 e7 e3 m0 m1 m2 m3 d.1 n9 w20 m10 p0 pt.2.2.1 d.2.2.1 (by omega) W3 (fun H4 W4 => bL_isRefused_1424 (tail H4 (lp_Xm W4 (by omega) (by omega)) H))))
end RF2
