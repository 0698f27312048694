/-! .. versions, watches, marks, an index off, an index built -/
theorem rc_8 : rc (fun _ => x_IS) 1 = -2000000003 := by
  show (if x_IS = x_IO then (-2000000001 : Int32) else if x_IS = x_IA then -2000000002 else -2000000003) = -2000000003
  decide
theorem rc_9 : rc (fun k => if k = 1 then x_IA else x_IS) 2 = -2000000003 := by
  show (if x_IS = x_IO then (-2000000001 : Int32) else if x_IS = x_IA then -2000000002 else -2000000003) = -2000000003
  decide
def m_A (A : lp_A) (v : Int32) : lp_A := lp_set A 0 (va_up (A 0) 0 v)
section LE
variable {G : k_G} {l : Launch} {a i q n t x ka hw : Nat} {A : lp_A} {M M0 : s_M} {H : k_H} {h0 : k_H} {Q : k_H → k_R → Prop} {z9 y9 kb : Int32}
theorem m_L5 {M' : s_M} {v : Int32} (L : L_5 A M) (hv : v = nI (g_n M')) (e1 : (g_WT M').length = (g_WT M).length) (e2 : g_MK M' = g_MK M) (e3 : g_DS M' = g_DS M) (eX : g_X M' = g_X M) (S' : J_S (A 0 4 = 0) M') : L_5 (m_A A v) M' := by
  obtain ⟨Lm, Lb, Lt, S⟩ := L
  unfold m_A
  refine ⟨Lm_n Lm ?_ ?_ ?_ ?_ e1 e2 e3, Lb_X Lb (lq_ne (by decide)) eX, Lt_X Lt (lq_ne (by decide)) eX, ?_⟩
  · rw [lq_eq, vu_eq, hv]
  · rw [lq_eq, vu_ne (by decide)]
  · rw [lq_eq, vu_ne (by decide)]
  · rw [lq_eq, vu_ne (by decide)]
  · rw [lq_eq, vu_ne (by decide)]; exact S'
theorem m_P {M' : s_M} {v : Int32} (Lw : L_w A M) (L : L_5 A M) (hv : v = nI (g_n M')) (e1 : (g_WT M').length = (g_WT M).length) (e2 : g_MK M' = g_MK M) (e3 : g_DS M' = g_DS M) (eX : g_X M' = g_X M) (S' : J_S (A 0 4 = 0) M') (r : J_r M M') : L_P A M (m_A A v) M' :=
  LP_of Lw (m_L5 L hv e1 e2 e3 eX S') r (fun j hj => lq_ne (by omega)) e1 (by unfold m_A; rw [lq_ne (by decide)])
theorem m_put {v : Int32} (W : lp_X a A i q M H) : lp_X a (m_A A v) i q M (k_up H (a + 31 + 0) (k_i (lp_sz 0) (va_up (A 0) 0 v))) := X_put (j := 0) W (by decide)
theorem mA_0 {v : Int32} : m_A A v 0 0 = v := by unfold m_A; rw [lq_eq, vu_eq]
theorem mA_j {v : Int32} {j : Nat} (h : ¬ j = 0) : m_A A v 0 j = A 0 j := by unfold m_A; rw [lq_eq, vu_ne h]
theorem mA_A {v : Int32} {j : Nat} (h : ¬ j = 0) : m_A A v j = A j := lq_ne h
theorem mA_2 {v w : Int32} : m_A (m_A A v) w = m_A A w := by
  unfold m_A
  rw [lq_eq, lq_twice]
  refine congrArg (lp_set A 0) (funext fun k => ?_)
  by_cases h : k = 0
  · rw [h, vu_eq, vu_eq]
  · rw [vu_ne h, vu_ne h, vu_ne h]
theorem mA_s {v : Int32} (h : A 0 0 = v) : m_A A v = A := by
  unfold m_A
  rw [← h, vu_same, lq_same]
/-- versions that go by -/
theorem lc_pass (ok : k_ok G l) (g0 : k_fh G = 0) (W : lp_X a A i q M H) (hi : i + 2 < 512) (L : L_5 A M) (Lw : L_w A M) (hx : x < 2 ^ 31) (hM : M0 = M) (K : ∀ H' A' M', lp_X a A' (i + 2) (q + 10) M' H' → L_P A M A' M' → k_X (jL_law G l h0) H' 1968 [(0, vR (some (k_sb G))), (1, vR (some a)), (2, vR (some (a + 31 + 0))), (3, vR (some (a + 31 + 1))), (4, vR (some (a + 31 + 2))), (5, vR (some (a + 31 + 3))), (6, vR (some (a + 31 + 4))), (7, vI 1), (8, vI (nI n)), (9, vI z9), (11, vI y9), (17, vI (nI (g_n M0)))] [] Q) : k_X (jL_law G l h0) H 1303 [(0, vR (some (k_sb G))), (1, vR (some a)), (2, vR (some (a + 31 + 0))), (3, vR (some (a + 31 + 1))), (4, vR (some (a + 31 + 2))), (5, vR (some (a + 31 + 3))), (6, vR (some (a + 31 + 4))), (8, vI (nI n)), (9, vI z9), (11, vI y9), (14, vI (nI x)), (17, vI (nI (g_n M0)))] [] Q := by
  have hm0 : A 0 ((0 : Int32).toNatClampNeg) = nI (g_n M) := L.1.1
  have i0 : vp_in 0 5 := in_5 (k := 0) (by omega)
  have fin : ∀ (k : Nat) (g : Nat) (H1 : k_H) (v : Int32), v = nI (g_n M + k) → lp_X a (m_A A (nI (g_n M + k))) (i + 1) q (g_adv M k g) H1 → J_k M (g_adv M k g) → k_X (jL_law G l h0) H1 1358 [(0, vR (some (k_sb G))), (1, vR (some a)), (2, vR (some (a + 31 + 0))), (3, vR (some (a + 31 + 1))), (4, vR (some (a + 31 + 2))), (5, vR (some (a + 31 + 3))), (6, vR (some (a + 31 + 4))), (8, vI (nI n)), (9, vI z9), (11, vI y9), (17, vI (nI (g_n M0)))] [vI v] Q := by
    intro k g H1 v hv W1 JK
    obtain ⟨s1, s2⟩ := J_step W (by omega) W1 (by omega) L.2.2.2 (JI_adv (X_e W (by omega)) L.2.2.2.1) JK L.2.2.2.2.2.1
    refine bL_law_1358 (X_atom (j := 0) W1 (by decide)) i0 (fun z => absurd (hv.trans mA_0.symm) z) (fun _ => bL_law_1364 (bL_law_1369 (bL_law_1371 (K _ _ _ (lp_Xm W1 (by omega) (by omega)) (m_P Lw L rfl rfl rfl rfl rfl s1 s2)))))
  by_cases h5 : nI x - (nI x / 5) * 5 = 0
  · refine bL_law_1303 (X_atom (j := 0) W (by decide)) i0 (fun z => absurd h5 z) (fun _ => bL_law_1314 (bL_law_1325 (X_atom (j := 0) W (by decide)) i0 ?_))
    rw [hm0, show nI (g_n M) + 10 = nI (g_n M + 10) from nI_add _ 10]
    have W1 := m_put (v := nI (g_n M + 10)) W
    refine bL_law_1327 (fun z => absurd h5 z) (fun _ => bL_law_1334 (X_is W1) (X_recover ok g0 W1 (by omega)) ?_)
    rintro H2 _ ⟨W2, rfl⟩
    exact bL_law_1338 (fin 10 _ H2 _ rfl W2 Jk_recover)
  · have e4 : nI x - (nI x / 4) * 4 = nI (x % 4) := rf_rem hx (by decide)
    have e1 : (1 : Int32) + nI (x % 4) = nI (1 + x % 4) := nI_add 1 _
    have h4 : x % 4 < 4 := Nat.mod_lt _ (by omega)
    refine bL_law_1303 (X_atom (j := 0) W (by decide)) i0 (fun _ => bL_law_1319 (bL_law_1325 (X_atom (j := 0) W (by decide)) i0 ?_)) (fun z => absurd z h5)
    rw [e4, e1, hm0, nI_add]
    have W1 := m_put (v := nI (g_n M + (1 + x % 4))) W
    have F : F_pass M (nI (1 + x % 4)) = (g_adv M (1 + x % 4) (g_gen M), 0, nI (g_n M + (1 + x % 4))) := by
      unfold F_pass
      rw [if_neg (show ¬ s_inB (nI (1 + x % 4)) 1 10 = false from (by decide +kernel : ∀ j, j < 4 → ¬ s_inB (nI (1 + j)) 1 10 = false) _ h4), nI_toInt (by omega)]
      rfl
    refine bL_law_1327 (fun _ => bL_law_1341 (by rw [e4, e1]; exact a_7 ok g0 W1 (by omega)) ?_) (fun z => absurd z h5)
    rintro H2 _ ⟨W2, rfl⟩
    have JK : J_k M (F_pass M (nI (1 + x % 4))).1 := Jk_pass
    rw [F] at W2 JK ⊢
    exact fin _ _ H2 _ rfl W2 JK
/-- watches -/
theorem lc_watch (ok : k_ok G l) (g0 : k_fh G = 0) (W : lp_X a A i q M H) (hi : i + 2 < 512) (L : L_5 A M) (Lw : L_w A M) (hk : ka < 8) (hb : kb = 10000 ∨ kb = 0 ∨ kb = 1) (hM : M0 = M) (K : ∀ H' A' M', lp_X a A' (i + 2) (q + 10) M' H' → L_P A M A' M' → k_X (jL_law G l h0) H' 1968 [(0, vR (some (k_sb G))), (1, vR (some a)), (2, vR (some (a + 31 + 0))), (3, vR (some (a + 31 + 1))), (4, vR (some (a + 31 + 2))), (5, vR (some (a + 31 + 3))), (6, vR (some (a + 31 + 4))), (7, vI 1), (8, vI (nI n)), (9, vI z9), (11, vI y9), (17, vI (nI (g_n M0)))] [] Q) : k_X (jL_law G l h0) H 1409 [(0, vR (some (k_sb G))), (1, vR (some a)), (2, vR (some (a + 31 + 0))), (3, vR (some (a + 31 + 1))), (4, vR (some (a + 31 + 2))), (5, vR (some (a + 31 + 3))), (6, vR (some (a + 31 + 4))), (8, vI (nI n)), (9, vI z9), (11, vI y9), (15, vI (nI ka)), (16, vI kb), (17, vI (nI (g_n M0)))] [] Q := by
  obtain ⟨Lm, Lb, Lt, S⟩ := id L
  have i0 : vp_in 0 5 := in_5 (k := 0) (by omega)
  have i1 : vp_in 1 5 := in_5 (k := 1) (by omega)
  have w20 : (g_WT M).length ≤ 20 := by
    obtain ⟨i', N, w, h, I⟩ := X_I W
    exact (lp_env I (by omega)).2.2.2.1.2.2
  have m1 : A 0 ((1 : Int32).toNatClampNeg) = nI (g_WT M).length := Lm.2.1
  have m0 : A 0 ((0 : Int32).toNatClampNeg) = nI (g_n M) := Lm.1
  have F0 : F_watch M (nI ka) kb 10000 = if (g_WT M).length = 20 then (M, 2, 0) else (g_wts M (g_WT M ++ [(s_cd (nI ka) kb 10000, -2147483648)]), 0, nI (g_WT M).length) := by
    unfold F_watch
    rw [if_neg (by rw [(kb_key hk hb).1]; decide)]
  refine bL_law_1409 (a_16 ok g0 W (by omega)) ?_
  rintro H1 _ ⟨W1, rfl⟩
  have JK : J_k M (F_watch M (nI ka) kb 10000).1 := Jk_watch
  by_cases c : (g_WT M).length = 20
  · rw [if_pos c] at F0
    rw [F0] at W1 ⊢
    rw [code_x (by decide), rc_9]
    refine bL_law_1425 (bL_law_1427 (X_atom (j := 0) W1 (by decide)) i1 (fun z => absurd (by rw [m1, c]; rfl) z) (fun _ => bL_law_1437 (bL_law_1445 (fun z => absurd rfl z) (fun _ => bL_law_1448 (bL_law_1453 (bL_law_1455 (X_atom (j := 0) W1 (by decide)) i1 (fun _ => bL_law_1487 ?_) (fun z => absurd (by rw [m1, c]; decide) z)))))))
    exact K _ _ _ (lp_Xm W1 (by omega) (by omega)) (LP_0 Lw L)
  · rw [if_neg c] at F0
    have l20 : (g_WT M).length < 20 := by omega
    rw [F0] at W1 JK ⊢
    rw [code_0]
    obtain ⟨s1, s2⟩ := J_step W (by omega) W1 (by omega) S (JI_same S.1 rfl rfl rfl (Nat.le_refl _)) JK S.2.2.1
    have no : ¬ A 0 ((1 : Int32).toNatClampNeg) = 20 := fun z => by
      rw [m1] at z
      exact c ((nI_eq (b := 20) (by omega) (by omega)).mp z)
    refine bL_law_1425 (bL_law_1427 (X_atom (j := 0) W1 (by decide)) i1 (fun _ => bL_law_1442 (X_atom (j := 0) W1 (by decide)) i1 (bL_law_1445 (fun z => absurd m1.symm z) (fun _ => bL_law_1448 (bL_law_1453 (bL_law_1455 (X_atom (j := 0) W1 (by decide)) i1 (fun z => ?_) (fun _ => bL_law_1463 (X_atom (j := 0) W1 (by decide)) i1 i0 (X_atom (j := 3) W1 (by decide)) (by rw [m1]; exact in_20 l20) ?_)))))) (fun z => absurd z no))
    · rw [m1] at z
      exact absurd ((nI_leI (a := 20) (by omega) (by omega)).mp z) (by omega)
    rw [m1, m0, tN (by omega)]
    have W2 := X_put (j := 3) (f := va_up (A 3) (g_WT M).length (nI (g_n M))) W1 (by decide)
    refine bL_law_1472 (X_atom (j := 0) W2 (by decide)) i1 (X_atom (j := 4) W2 (by decide)) (by rw [lq_ne (by decide), m1]; exact in_20 l20) ?_
    rw [lq_ne (show ¬ 4 = 3 by decide), lq_ne (show ¬ 0 = 3 by decide), m1, tN (by omega)]
    have W3 := X_put (j := 4) (f := va_up (A 4) (g_WT M).length (-2147483648)) W2 (by decide)
    refine bL_law_1480 (X_atom (j := 0) W3 (by decide)) i1 ?_
    rw [lq_ne (show ¬ 0 = 4 by decide), lq_ne (show ¬ 0 = 3 by decide), m1, show nI (g_WT M).length + 1 = nI ((g_WT M).length + 1) from nI_add _ 1]
    have W4 := X_put (j := 0) (f := va_up (A 0) 1 (nI ((g_WT M).length + 1))) W3 (by decide)
    refine bL_law_1487 (K _ _ _ (lp_Xm W4 (by omega) (by omega)) ⟨⟨⟨?_, ?_, ?_, ?_⟩, ?_, ?_, ?_⟩, s2, ⟨?_, ?_⟩, _, fun k w hk => ?_, Jr_0 _, rfl⟩)
    · rw [lq_eq, vu_ne (by decide)]; exact Lm.1
    · rw [lq_eq, vu_eq]
      show _ = nI (g_WT M ++ [(s_cd (nI ka) kb 10000, -2147483648)]).length
      rw [List.length_append]; rfl
    · rw [lq_eq, vu_ne (by decide)]; exact Lm.2.2.1
    · rw [lq_eq, vu_ne (by decide)]; exact Lm.2.2.2
    · exact Lb_X Lb (by rw [lq_ne (by decide), lq_ne (by decide), lq_ne (by decide)]) rfl
    · exact Lt_X Lt (by rw [lq_ne (by decide), lq_ne (by decide), lq_ne (by decide)]) rfl
    · rw [lq_eq, vu_ne (by decide)]; exact s1
    · rw [lq_ne (by decide), lq_ne (by decide), lq_ne (by decide)]
    · rw [lq_ne (by decide), lq_ne (by decide), lq_ne (by decide)]
    · have hk : (g_WT M ++ [(s_cd (nI ka) kb 10000, -2147483648)])[k]? = some w := hk
      rw [lq_ne (show ¬ 4 = 0 by decide), lq_eq, lq_ne (show ¬ 3 = 0 by decide), lq_ne (show ¬ 3 = 4 by decide), lq_eq]
      by_cases h : k < (g_WT M).length
      · rw [List.getElem?_append_left h] at hk
        rw [vu_ne (by omega), vu_ne (by omega)]
        exact Lw k w hk
      · have hk2 := (List.getElem?_eq_some_iff.mp hk).1
        rw [List.length_append, List.length_singleton] at hk2
        have ek : k = (g_WT M).length := by omega
        rw [ek, List.getElem?_append_right (Nat.le_refl _), Nat.sub_self] at hk
        cases hk
        rw [ek, vu_eq, vu_eq]
        exact ⟨rfl, _, Nat.le_refl _, rfl⟩
/-- marks -/
theorem lc_mark (ok : k_ok G l) (g0 : k_fh G = 0) (W : lp_X a A i q M H) (hi : i + 2 < 512) (L : L_5 A M) (Lw : L_w A M) (hM : M0 = M) (K : ∀ H' A' M', lp_X a A' (i + 2) (q + 10) M' H' → L_P A M A' M' → k_X (jL_law G l h0) H' 1968 [(0, vR (some (k_sb G))), (1, vR (some a)), (2, vR (some (a + 31 + 0))), (3, vR (some (a + 31 + 1))), (4, vR (some (a + 31 + 2))), (5, vR (some (a + 31 + 3))), (6, vR (some (a + 31 + 4))), (7, vI 1), (8, vI (nI n)), (9, vI z9), (11, vI y9), (17, vI (nI (g_n M0)))] [] Q) : k_X (jL_law G l h0) H 1497 [(0, vR (some (k_sb G))), (1, vR (some a)), (2, vR (some (a + 31 + 0))), (3, vR (some (a + 31 + 1))), (4, vR (some (a + 31 + 2))), (5, vR (some (a + 31 + 3))), (6, vR (some (a + 31 + 4))), (8, vI (nI n)), (9, vI z9), (11, vI y9), (17, vI (nI (g_n M0)))] [] Q := by
  obtain ⟨Lm, Lb, Lt, S⟩ := id L
  have i2 : vp_in 2 5 := in_5 (k := 2) (by omega)
  have m10 : (g_MK M).length ≤ 10 := by
    obtain ⟨i', N, w, h, I⟩ := X_I W
    exact (lp_env I (by omega)).2.2.2.1.2.1
  have m2 : A 0 ((2 : Int32).toNatClampNeg) = nI (g_MK M).length := Lm.2.2.1
  refine bL_law_1497 (a_22 ok g0 W (by omega)) ?_
  rintro H1 _ ⟨W1, rfl⟩
  have JK : J_k M (F_mark M).1 := Jk_mark
  by_cases c : (g_MK M).length = 10
  · have F : F_mark M = (M, 1, 0) := if_pos c
    rw [F] at W1 ⊢
    rw [code_x (by decide), rc_8]
    refine bL_law_1509 (bL_law_1511 (X_atom (j := 0) W1 (by decide)) i2 (fun z => absurd (by rw [m2, c]; rfl) z) (fun _ => bL_law_1521 (bL_law_1529 (fun z => absurd rfl z) (fun _ => bL_law_1532 (bL_law_1537 (bL_law_1539 (X_atom (j := 0) W1 (by decide)) i2 (fun z => absurd z (by decide)) (fun _ => bL_law_1548 (bL_law_1553 (X_atom (j := 0) W1 (by decide)) i2 ?_))))))))
    rw [Int32.add_zero]
    have W2 := X_put (j := 0) (f := va_up (A 0) ((2 : Int32).toNatClampNeg) (A 0 ((2 : Int32).toNatClampNeg))) W1 (by decide)
    refine bL_law_1555 (K _ _ _ (lp_Xm W2 (by omega) (by omega)) ?_)
    rw [vu_same, lq_same]
    exact LP_0 Lw L
  · have F : F_mark M = (g_mks M (g_MK M ++ [g_n M]), 0, nI (g_MK M).length) := if_neg c
    rw [F] at W1 JK ⊢
    rw [code_0]
    obtain ⟨s1, s2⟩ := J_step W (by omega) W1 (by omega) S (JI_same S.1 rfl rfl rfl (Nat.le_refl _)) JK S.2.2.1
    have no : ¬ A 0 ((2 : Int32).toNatClampNeg) = 10 := fun z => by
      rw [m2] at z
      exact c ((nI_eq (b := 10) (by omega) (by omega)).mp z)
    refine bL_law_1509 (bL_law_1511 (X_atom (j := 0) W1 (by decide)) i2 (fun _ => bL_law_1526 (X_atom (j := 0) W1 (by decide)) i2 (bL_law_1529 (fun z => absurd m2.symm z) (fun _ => bL_law_1532 (bL_law_1537 (bL_law_1539 (X_atom (j := 0) W1 (by decide)) i2 (fun _ => bL_law_1552 (bL_law_1553 (X_atom (j := 0) W1 (by decide)) i2 ?_)) (fun z => absurd ((nI_leI (a := 0) (by omega) (by omega)).mpr (Nat.zero_le _)) z)))))) (fun z => absurd z no))
    rw [m2, show nI (g_MK M).length + 1 = nI ((g_MK M).length + 1) from nI_add _ 1]
    have W2 := X_put (j := 0) (f := va_up (A 0) 2 (nI ((g_MK M).length + 1))) W1 (by decide)
    refine bL_law_1555 (K _ _ _ (lp_Xm W2 (by omega) (by omega)) (LP_of Lw ⟨⟨?_, ?_, ?_, ?_⟩, ?_, ?_, ?_⟩ s2 (fun j hj => lq_ne (by omega)) rfl))
    · rw [lq_eq, vu_ne (by decide)]; exact Lm.1
    · rw [lq_eq, vu_ne (by decide)]; exact Lm.2.1
    · rw [lq_eq, vu_eq]
      show _ = nI (g_MK M ++ [g_n M]).length
      rw [List.length_append]; rfl
    · rw [lq_eq, vu_ne (by decide)]; exact Lm.2.2.2
    · exact Lb_X Lb (lq_ne (by decide)) rfl
    · exact Lt_X Lt (lq_ne (by decide)) rfl
    · rw [lq_eq, vu_ne (by decide)]; exact s1
/-- an index off -/
theorem lc_off (ok : k_ok G l) (g0 : k_fh G = 0) (W : lp_X a A i q M H) (hi : i + 2 < 512) (L : L_5 A M) (Lw : L_w A M) (hx : x < 2 ^ 31) (hM : M0 = M) (K : ∀ H' A' M', lp_X a A' (i + 2) (q + 10) M' H' → L_P A M A' M' → k_X (jL_law G l h0) H' 1968 [(0, vR (some (k_sb G))), (1, vR (some a)), (2, vR (some (a + 31 + 0))), (3, vR (some (a + 31 + 1))), (4, vR (some (a + 31 + 2))), (5, vR (some (a + 31 + 3))), (6, vR (some (a + 31 + 4))), (7, vI 1), (8, vI (nI n)), (9, vI z9), (11, vI y9), (17, vI (nI (g_n M0)))] [] Q) : k_X (jL_law G l h0) H 978 [(0, vR (some (k_sb G))), (1, vR (some a)), (2, vR (some (a + 31 + 0))), (3, vR (some (a + 31 + 1))), (4, vR (some (a + 31 + 2))), (5, vR (some (a + 31 + 3))), (6, vR (some (a + 31 + 4))), (7, vI 1), (8, vI (nI n)), (9, vI z9), (11, vI y9), (14, vI (nI x)), (17, vI (nI (g_n M0)))] [] Q := by
  have i0 : vp_in 0 5 := in_5 (k := 0) (by omega)
  refine bL_law_978 (fun _ => K _ _ _ (lp_Xm W (by omega) (by omega)) (LP_0 Lw L)) (fun _ => ?_)
  have lt : x / 3 < 2 ^ 31 := Nat.lt_of_le_of_lt (Nat.div_le_self _ _) hx
  have d3 : nI x / 3 = nI (x / 3) := nI_div hx (by decide)
  have e3 : nI (x / 3) - (nI (x / 3) / 3) * 3 = nI (x / 3 % 3) := rf_rem lt (by decide)
  have h3 : x / 3 % 3 < 3 := Nat.mod_lt _ (by omega)
  have in2 : ¬ s_inB (nI (x / 3 % 3)) 0 2 = false := (by decide +kernel : ∀ w, w < 3 → ¬ s_inB (nI w) 0 2 = false) _ h3
  refine bL_law_985 (by rw [d3, e3]; exact a_13 ok g0 W (by omega)) ?_
  rintro H1 _ ⟨W1, rfl⟩
  have JK : J_k M (F_off M (nI (x / 3 % 3))).1 := Jk_off
  have F : ∃ m, m < 2 ^ 31 ∧ F_off M (nI (x / 3 % 3)) = (g_cm M (of_E M (nI (x / 3 % 3))), 0, nI m) := by
    refine ⟨_, ?_, if_neg in2⟩
    refine Nat.lt_of_le_of_lt (List.length_filter_le _ _) ?_
    obtain ⟨i', N, w, h, I⟩ := X_I W
    have := (lp_env I (by omega)).1.1
    have := this.1
    omega
  obtain ⟨m, hm, F⟩ := F
  have e := X_e W (by omega)
  have n9 := e.2.2.1
  rw [F] at W1 JK ⊢
  rw [code_0]
  obtain ⟨s1, s2⟩ := J_step W (by omega) W1 (by omega) L.2.2.2 (JI_off e L.2.2.2.1 h3) JK (lz_off L.2.2.2.2.2.1)
  refine bL_law_1002 (bL_law_1004 (X_atom (j := 0) W1 (by decide)) i0 ?_)
  rw [show A 0 ((0 : Int32).toNatClampNeg) + 1 = nI (g_n M + 1) from by rw [show A 0 ((0 : Int32).toNatClampNeg) = nI (g_n M) from L.1.1]; exact nI_add _ 1]
  have W2 := m_put (v := nI (g_n M + 1)) W1
  have kS : s_keyB (-6) (nI (x / 3 % 3)) 10000 = true := (by decide +kernel : ∀ w, w < 3 → s_keyB (-6) (nI w) 10000 = true) _ h3
  refine bL_law_1011 (fun z => absurd z (nI_pos (by omega))) (fun _ => bL_law_1016 (X_atom (j := 0) W2 (by decide)) i0 (X_is W2) (by rw [d3, e3, show m_A A (nI (g_n M + 1)) 0 ((0 : Int32).toNatClampNeg) = nI (g_n M + 1) from mA_0]; exact X_val ok g0 W2 (by omega) (Nat.le_refl _) kS (wS_eq (by omega))) ?_)
  rintro H3 _ ⟨W3, rfl⟩
  have v : o_told (g_U (g_cm M (of_E M (nI (x / 3 % 3)))) (g_n M + 1) (wS (x / 3 % 3))) = -1000 := by
    unfold g_U
    show o_told (r_val (wS (x / 3 % 3)) (g_n M + 1) (of_E M (nI (x / 3 % 3))).2.1) = -1000
    unfold of_E
    rw [put_val, wS_eq (by omega), if_pos ⟨rfl, Nat.le_refl _⟩]
    rfl
  refine bL_law_1034 (fun z => absurd v z) (fun _ => bL_law_1040 (bL_law_1045 (bL_law_1047 (K _ _ _ (lp_Xm W3 (by omega) (by omega)) (m_P Lw L rfl (List.length_map _) rfl rfl rfl s1 s2)))))
theorem bl_le {n : Nat} {x st : Int32} {m : Nat} (hm : m < 100) : ∀ (ks : List Nat) (b : b_S), b.2.1 ≤ m → (ks.foldl (bl_step n x st (nI m)) b).2.1 ≤ m := by
  intro ks
  induction ks with
  | nil => intro b h; exact h
  | cons k ks ih =>
    intro b h
    refine ih _ ?_
    unfold bl_step
    split
    · split
      · exact h
      · rename_i c
        have : b.2.1 < m := Nat.lt_of_not_le fun z => c ((nI_leI (by omega) (by omega)).mpr z)
        show b.2.1 + 1 ≤ m
        omega
    · exact h
/-- an index built -/
theorem lc_build (ok : k_ok G l) (g0 : k_fh G = 0) (W : lp_X a A i q M H) (hi : i + 2 < 512) (L : L_5 A M) (Lw : L_w A M) (hx : x < 2 ^ 31) (hM : M0 = M) (K : ∀ H' A' M', lp_X a A' (i + 2) (q + 10) M' H' → L_P A M A' M' → k_X (jL_law G l h0) H' 1968 [(0, vR (some (k_sb G))), (1, vR (some a)), (2, vR (some (a + 31 + 0))), (3, vR (some (a + 31 + 1))), (4, vR (some (a + 31 + 2))), (5, vR (some (a + 31 + 3))), (6, vR (some (a + 31 + 4))), (7, vI 1), (8, vI (nI n)), (9, vI z9), (11, vI y9), (17, vI (nI (g_n M0)))] [] Q) : k_X (jL_law G l h0) H 851 [(0, vR (some (k_sb G))), (1, vR (some a)), (2, vR (some (a + 31 + 0))), (3, vR (some (a + 31 + 1))), (4, vR (some (a + 31 + 2))), (5, vR (some (a + 31 + 3))), (6, vR (some (a + 31 + 4))), (8, vI (nI n)), (9, vI z9), (11, vI y9), (14, vI (nI x)), (17, vI (nI (g_n M0)))] [] Q := by
  have i0 : vp_in 0 5 := in_5 (k := 0) (by omega)
  have lt : x / 3 < 2 ^ 31 := Nat.lt_of_le_of_lt (Nat.div_le_self _ _) hx
  have d3 : nI x / 3 = nI (x / 3) := nI_div hx (by decide)
  have e3 : nI x - (nI x / 3) * 3 = nI (x % 3) := rf_rem hx (by decide)
  have e5 : nI (x / 3) - (nI (x / 3) / 5) * 5 = nI (x / 3 % 5) := rf_rem lt (by decide)
  have e1 : (1 : Int32) + nI (x / 3 % 5) = nI (1 + x / 3 % 5) := nI_add 1 _
  have h3 : x % 3 < 3 := Nat.mod_lt _ (by omega)
  have h5 : x / 3 % 5 < 5 := Nat.mod_lt _ (by omega)
  have in2 : ¬ s_inB (nI (x % 3)) 0 2 = false := (by decide +kernel : ∀ w, w < 3 → ¬ s_inB (nI w) 0 2 = false) _ h3
  have in20 : ¬ s_inB (nI (1 + x / 3 % 5)) 1 20 = false := (by decide +kernel : ∀ w, w < 5 → ¬ s_inB (nI (1 + w)) 1 20 = false) _ h5
  have kS : s_keyB (-6) (nI (x % 3)) 10000 = true := (by decide +kernel : ∀ w, w < 3 → s_keyB (-6) (nI w) 10000 = true) _ h3
  have m0 : A 0 ((0 : Int32).toNatClampNeg) = nI (g_n M) := L.1.1
  have e := X_e W (by omega)
  have n9 := e.2.2.1
  refine bL_law_851 (bL_law_857 (X_atom (j := 0) W (by decide)) i0 (X_is W) (by rw [e3, m0]; exact X_val ok g0 W (by omega) (Nat.le_refl _) kS (wS_eq (by omega))) ?_)
  rintro H1 _ ⟨W1, rfl⟩
  have est : o_told (g_U M (g_n M) (wS (x % 3))) = bl_st M (nI (x % 3)) := by
    unfold bl_st g_U
    rw [wS_eq (by omega)]
  rw [est]
  refine bL_law_871 (bL_law_873 (by rw [e3, d3, e5, e1]; exact a_12 ok g0 W1 (by omega)) ?_)
  rintro H2 _ ⟨W2, rfl⟩
  have JK : J_k M (F_build M (nI (x % 3)) (nI (1 + x / 3 % 5))).1 := Jk_build
  by_cases c : bl_st M (nI (x % 3)) = -2147483648 ∨ bl_st M (nI (x % 3)) = 1000
  · have F : F_build M (nI (x % 3)) (nI (1 + x / 3 % 5)) = (M, 3, 0) := by
      unfold F_build
      rw [if_neg in2, if_neg in20, if_pos c]
    rw [F] at W2 ⊢
    rw [code_x (by decide), rc_7]
    refine bL_law_893 (bL_law_895 (X_atom (j := 0) W2 (by decide)) i0 (fun z => absurd rfl z) (fun _ => bL_law_906 (bL_law_911 (X_atom (j := 0) W2 (by decide)) i0 ?_)))
    rw [Int32.add_zero, m0]
    have W3 := m_put (v := nI (g_n M)) W2
    rw [mA_s L.1.1] at W3
    have fin : k_X (jL_law G l h0) (k_up H2 (a + 31 + 0) (k_i (lp_sz 0) (va_up (A 0) ((0 : Int32).toNatClampNeg) (nI (g_n M))))) 928 [(0, vR (some (k_sb G))), (1, vR (some a)), (2, vR (some (a + 31 + 0))), (3, vR (some (a + 31 + 1))), (4, vR (some (a + 31 + 2))), (5, vR (some (a + 31 + 3))), (6, vR (some (a + 31 + 4))), (8, vI (nI n)), (9, vI z9), (11, vI y9), (17, vI (nI (g_n M0))), (20, vI (-2000000003))] [] Q :=
      bL_law_928 (fun z => absurd rfl z) (fun _ => bL_law_935 (bL_law_966 (bL_law_968 (K _ _ _ (lp_Xm W3 (by omega) (by omega)) (LP_0 Lw L)))))
    exact bL_law_913 (fun _ => fin) (fun z => bL_law_920 (fun z2 => absurd c (fun w => w.elim z z2)) (fun _ => fin))
  · have F : F_build M (nI (x % 3)) (nI (1 + x / 3 % 5)) = (g_cm M (bl_E M (nI (x % 3)) (nI (1 + x / 3 % 5))), 0, nI (bl_run M (nI (x % 3)) (nI (1 + x / 3 % 5))).2.1) := by
      unfold F_build
      rw [if_neg in2, if_neg in20, if_neg c]
    have le : (bl_run M (nI (x % 3)) (nI (1 + x / 3 % 5))).2.1 ≤ 1 + x / 3 % 5 := bl_le (by omega) _ _ (Nat.zero_le _)
    rw [F] at W2 JK ⊢
    rw [code_0]
    obtain ⟨s1, s2⟩ := J_step W (by omega) W2 (by omega) L.2.2.2 (JI_build e L.2.2.2.1 h3 (fun z => c (Or.inl z))) JK (lz_build L.2.2.2.2.2.1)
    generalize (bl_run M (nI (x % 3)) (nI (1 + x / 3 % 5))).2.1 = m at le
    have ns : ¬ nI m = -2000000003 := fun z => by
      have := congrArg Int32.toInt z
      rw [nI_toInt (by omega), show (-2000000003 : Int32).toInt = -2000000003 from by decide] at this
      omega
    refine bL_law_893 (bL_law_895 (X_atom (j := 0) W2 (by decide)) i0 (fun _ => bL_law_910 (bL_law_911 (X_atom (j := 0) W2 (by decide)) i0 ?_)) (fun z => absurd z ns))
    rw [m0, show nI (g_n M) + 1 = nI (g_n M + 1) from nI_add _ 1]
    have W3 := m_put (v := nI (g_n M + 1)) W2
    refine bL_law_913 (fun z => absurd (Or.inl z) c) (fun _ => bL_law_920 (fun _ => bL_law_943 (fun z => absurd z (nI_pos (by omega))) (fun _ => bL_law_948 (fun z => ?_) (fun _ => bL_law_961 (bL_law_966 (bL_law_968 (K _ _ _ (lp_Xm W3 (by omega) (by omega)) (m_P Lw L rfl (List.length_map _) rfl rfl rfl s1 s2))))))) (fun z => absurd (Or.inr z) c))
    rw [d3, e5, e1] at z
    exact absurd ((nI_ltI (by omega) (by omega)).mp z) (by omega)
end LE
