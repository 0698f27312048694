/-! THE CLASS BRINGS BACK, WATCHES, RANKS -/
theorem sE_adv {a n m c S : Nat} {h : k_H} {E : e_S} {Q : List k_K2} (s : c_sE a h E n Q S) (hnm : n ≤ m) : r_val c m E.2.1 = r_val c n E.2.1 := by
  obtain ⟨KS, L, WS, z, st, rE, q, e⟩ := s
  obtain ⟨cK, cW, cH, xs, ka, -, -, ⟨g1, g2, g3⟩, -⟩ := st
  rw [← rE.1.1, ← rE.1.1, r_val_adv g1 hnm]
theorem bb_eq {a N w v : Nat} {B : Nat × Nat} {h : k_H} {M : s_M} (W : c_W a B h M N w) : bb_F (g_E M) (g_n M + 1) v = bb_E M v := by
  obtain ⟨Q, S, PS, s, -⟩ := W
  unfold bb_F bb_E bb_list
  congr 1
  refine List.filter_congr fun y _ => ?_
  unfold bb_oth
  rw [sE_adv s (Nat.le_succ _)]
theorem ex_foldp (n : Nat) (f : Nat → Option Int32) : ∀ (X : List k_K2) (E : e_S), e_ex n E (X.foldl (fun E y => e_put (n + 1) y.1 (f y.1) E) E) :=
  ex_fold _ (fun E x => ex_put n x.1 (f x.1) E)
section CBB
variable {G : k_G} {l : Launch}
theorem C_bringBack (ok : k_ok G l) {a N w k : Nat} {B : Nat × Nat} {h : k_H} {M : s_M} {x : Int32} (W : c_W a B h M N w) (hmk : (g_MK M).length ≤ 10) (hv : ∀ v ∈ g_MK M, v ≤ g_n M) (hlim0 : e_lim (g_E M)) (hn : g_n M + 1 < 9000) (hpk : g_pk M) (h0 : g_p0 M) (hlim : ∀ v ∈ g_MK M, 0 < (bb_list M v).length → g_ps M (bb_E M v) ∧ e_lim (bb_E M v) ∧ g_sp M (bb_E M v) ≤ k) :
    k_ct (tX11_bringBack G l) [vR (some a), vI x] h (c_R a B (F_bringBack M x) x_I (N + 1 + k) w) := by
  obtain ⟨Q, S, PS, s, r, p, co⟩ := id W
  obtain ⟨r1, r2, r3, r4, ⟨f, k1, k2⟩, r6, r7⟩ := id r
  obtain ⟨f0, f1, f2, f3, f4, f5, o11⟩ := sE_obj s
  have hin := inB_k (x := x) (k := (g_MK M).length) (by omega)
  have bad : s_inB x 0 (nI (g_MK M).length - 1) = false → k_X (jX11_bringBack G l h) h 21 [] [] (c_R a B (F_bringBack M x) x_I (N + 1 + k) w) := fun hc => by
    refine bX11_bringBack_21 ?_
    have hF : F_bringBack M x = (M, 1, 0) := by unfold F_bringBack; rw [if_pos hc]
    rw [hF]
    exact ⟨W_le (W_sk W) (by omega), rfl⟩
  refine eX11_bringBack ok.2 (bX11_bringBack_0 (fun c => bad ?_) (fun c1 => bX11_bringBack_4 r3 rfl (fun c => bad ?_) (fun c2 => bX11_bringBack_12 r3 rfl k1 (fun c3 => ?_) (fun c3 => bad ?_))))
  · rw [hin, decide_eq_false (show ¬ ¬ x < 0 from fun z => z c), Bool.false_and]
  · rw [hin, decide_eq_false (show ¬ x < nI (g_MK M).length from Int32.not_lt.mpr c), Bool.and_false]
  · have hi : s_inB x 0 (nI (g_MK M).length - 1) = true := by rw [hin, decide_eq_true c1, decide_eq_true (Int32.not_le.mp c2)]; rfl
    obtain ⟨j, hj, rfl, ht⟩ := s_in_ (by omega) hi
    obtain ⟨v, hv1⟩ : ∃ v, (g_MK M)[j]? = some v := ⟨_, List.getElem?_eq_getElem hj⟩
    have hvm := List.mem_of_getElem? hv1
    have hvn := hv v hvm
    have hn9 := (sE_n s).1
    have ef := k2 j v hv1
    have hgd : (g_MK M).getD j 0 = v := by rw [List.getD_eq_getElem?_getD, hv1]; rfl
    have hF : F_bringBack M (nI j) = (if 0 < (bb_list M v).length then g_cm M (bb_E M v) else M, 0, nI (bb_list M v).length) := by
      unfold F_bringBack
      rw [if_neg (by rw [hi]; decide), ht, hgd]
    have hbl : (bb_list M v).length ≤ 12000 := Nat.le_trans (List.length_filter_le _ _) hlim0.1
    have hcd : k_cti (tX8_countDiffering G l) [vR (some (a + 1)), vI (f (nI j).toNatClampNeg)] h (fun h' w => h' = h ∧ w = nI (bb_list M v).length) := by
      rw [nI_clamp (by omega), ef]
      exact c_E_countDiffering ok s (by omega)
    refine bX11_bringBack_32 r3 rfl k1 (nI_in (by omega) (by omega)) rfl (k_is_o o11) hcd ?_
    rintro _ _ ⟨hh, rfl⟩
    rw [hh, nI_clamp (by omega), ef]
    refine bX11_bringBack_47 (fun c4 => ?_) (fun c4 => ?_)
    · have : (bb_list M v).length ≤ 0 := (nI_leI (b := 0) (by omega) (by omega)).mp c4
      exact bX11_bringBack_72 (R_ok (W_le W (by omega)) (by rw [hF, if_neg (by omega)]))
    · have hpos : 0 < (bb_list M v).length := by
        by_cases e : (bb_list M v).length ≤ 0
        · exact absurd ((nI_leI (b := 0) (by omega) (by omega)).mpr e) c4
        · omega
      obtain ⟨g1, g2, g3⟩ := hlim v hvm hpos
      refine bX11_bringBack_52 r3 rfl (k_is_o o11) (O_open ok W (by omega)) ?_
      rintro h2 ⟨O2, -⟩
      obtain ⟨o14, f0, f1, f2, f3, f4, f5, o11⟩ := O_ob O2
      obtain ⟨Q2, S2, PS2, s2, q2, p2, co2⟩ := O2
      have eb := bb_eq (v := v) W
      refine bX11_bringBack_60 o14 rfl (k_is_o o11) (c_E_restore ok s2 (v := v) (by omega) (by rw [eb]; exact g2)) ?_
      rintro h3 ⟨S3, s3, hS3, m3⟩
      rw [eb] at s3
      have O3 : c_O a B h3 M (bb_E M v) N w := ⟨Q2, S3, PS2, s3, rs_sto q2 s2 m3, p2, co_le (co_mo co2 m3) (by omega)⟩
      obtain ⟨o14, -⟩ := O_ob O3
      refine bX11_bringBack_68 (k_is_o o14) (O_close ok O3 ?_ g2 hpk h0 g1) ?_
      · exact ex_foldp _ (fun c => r_val c v (g_E M).2.1) _ _
      rintro h4 ⟨W4, -⟩
      exact bX11_bringBack_72 (R_ok (W_le W4 (by omega)) (by rw [hF, if_pos hpos]))
  · exact absurd ((nI_ltI (a := 0) (b := 10) (by omega) (by omega)).mpr (by omega)) (fun _ => c3 (by
      have hx : 0 ≤ x.toInt := by
        have := Int32.le_iff_toInt_le.mp (Int32.not_lt.mp c1)
        simpa using this
      have hj := nI_ofN hx
      have hlt : x.toInt.toNat < 2 ^ 31 := by have := Int32.toInt_lt x; omega
      have c2' := Int32.not_le.mp c2
      generalize x.toInt.toNat = j at hj hlt
      rw [hj] at c2' ⊢
      have := (nI_ltI hlt (by omega)).mp c2'
      exact (nI_ltI hlt (by omega)).mpr (by omega)))
theorem C_watch (ok : k_ok G l) {a N w : Nat} {B : Nat × Nat} {h : k_H} {M : s_M} {a1 b1 c1 : Int32} (W : c_W a B h M N w) (hwl : (g_WT M).length ≤ 20) (hlim0 : e_lim (g_E M)) : k_ct (tX11_watch G l) [vR (some a), vI a1, vI b1, vI c1] h (c_R a B (F_watch M a1 b1 c1) (fun k => if k = 1 then x_IA else x_IS) (N + 2) w) := by
  obtain ⟨Q, S, PS, s, r, p, co⟩ := id W
  obtain ⟨r1, r2, r3, r4, r5, r6, WA, capW, w1, ⟨w2, w3, w4⟩, w5⟩ := id r
  refine eX11_watch ok.2 ?_
  cases hk : s_keyB a1 b1 c1 with
  | false =>
    refine bX11_watch_0x (x_X11_requireKey ok hk) ?_
    rintro _ rfl
    have hF : F_watch M a1 b1 c1 = (M, 1, 0) := by unfold F_watch; rw [if_pos hk]
    rw [hF]
    exact ⟨W_le (W_sk W) (by omega), rfl⟩
  | true =>
    refine bX11_watch_0 (c_X11_requireKey ok hk) ?_
    rintro _ hh
    rw [hh]
    obtain ⟨na, nb, nc⟩ := s_keyB_na hk
    have hcd := s_cd_lt na nb nc
    refine bX11_watch_6 r3 rfl (Or.inr ⟨rfl, _, _, w1⟩) (c_size ok w1) ?_
    rintro _ _ ⟨hh, rfl⟩
    rw [hh, w2]
    refine bX11_watch_13 (fun c => ?_) (fun c => bX11_watch_18 ?_)
    · have hlt := (nI_ltI (b := 20) (by omega) (by omega)).mp c
      have hF : F_watch M a1 b1 c1 = (g_wts M (g_WT M ++ [(s_cd a1 b1 c1, -2147483648)]), 0, nI (g_WT M).length) := by
        unfold F_watch; rw [if_neg (by rw [hk]; decide), if_neg (by omega)]
      obtain ⟨hwf, ha31⟩ : k_wf h ∧ a + 31 ≤ h.2.1 := by
        obtain ⟨CXf, -, -, x3, x4⟩ := r1
        exact ⟨x4, x3⟩
      refine bX11_watch_29 r3 rfl ?_
      have mN : k_mo a [] (fun _ => False) 1 h (k_nw h 2 (k_o 13 [vR none, vI 0])) := mv_nw hwf ha31 (by omega)
      have oN : (k_nw h 2 (k_o 13 [vR none, vI 0])).1 h.2.1 = some (k_o 13 [vR none, vI 0]) := k_nw_self _ _ _
      generalize hg : k_nw h 2 (k_o 13 [vR none, vI 0]) = h1 at mN oN
      have s1 := sE_fr s mN (by simp) (fun _ _ _ z => z) (fun _ _ _ _ _ z => z)
      have q1 := rs_fr r mN (fun k hk => by cases hk) (fun _ _ _ z => z) (fun _ _ _ _ _ z => z)
      have co1 := co_mo co mN
      have hnew : h.2.1 ∉ WA := fun z => by
        obtain ⟨j, hj⟩ := List.getElem?_of_mem z
        have hjl := (List.getElem?_eq_some_iff.mp hj).1
        have := hwf _ _ (w5 j _ _ _ hj (List.getElem?_eq_getElem (by omega)) (List.getElem?_eq_getElem (by omega))).2
        omega
      generalize hq : h.2.1 = q at oN hnew
      obtain ⟨f0, f1, f2, f3, f4, f5, o11⟩ := sE_obj s1
      refine bX11_watch_36 q1.2.2.1 rfl (c_X11_codeOf ok na nb nc) ?_
      rintro _ _ ⟨hh, rfl⟩
      rw [hh]
      refine bX11_watch_47 (k_is_o o11) (c_E_keyForW ok s1 hcd hlim0 (by omega)) ?_
      rintro h2 _ ⟨kk, S2, rfl, s2, hS2, m2⟩
      have q2 := rs_sto q1 s1 m2
      have co2 := co_mo co1 m2
      have oN2 : h2.1 q = some (k_o 13 [vR none, vI 0]) := m2.1 _ _ oN (sE_A5 s1 oN (by decide)) (fun ci fs e => by cases e; decide)
      refine bX11_watch_50 (c_X10_init ok oN2) ?_
      rintro h3 hh3
      obtain ⟨s3, q3, m3⟩ := r6_wat s2 ⟨q2.1, q2.2.1, q2.2.2.1, q2.2.2.2.1, q2.2.2.2.2.1, q2.2.2.2.2.2.1⟩ oN2 hh3
      have co3 := co_mo co2 m3
      have oN3 : h3.1 q = some (k_o 13 [vR (some kk), vI (-2147483648)]) := by rw [hh3]; exact k_up_self _ _ _
      obtain ⟨WA2, cap2, v1, ⟨v2, v3, v4⟩, v5⟩ := id q2.2.2.2.2.2.2
      -- the watches' list is the same
      have e14 : h2.1 (a + 14) = some (k_l WA capW) := by
        have h14 : h1.1 (a + 14) = some (k_l WA capW) := mN.1 _ _ w1 id (fun ci fs e => by cases e)
        exact m2.1 _ _ h14 (fun z => by rcases z with z | z | z | z <;> omega) (fun ci fs e => by cases e)
      rw [e14] at v1
      cases v1
      have e143 : h3.1 (a + 14) = some (k_l WA capW) := m3.1 _ _ e14 id (fun ci fs e => by cases e)
      have wobj : ∀ (i b : Nat) (x : Nat × Int32) (y : k_K2), WA[i]? = some b → (g_WT M)[i]? = some x → Q[i]? = some y → y.1 = x.1 ∧ h3.1 b = some (k_o 13 [vR (some y.2), vI x.2]) := fun i b x y a1 a2 a3 => by
        obtain ⟨z1, z2⟩ := v5 i b x y a1 a2 a3
        refine ⟨z1, ?_⟩
        rw [hh3, k_up_ne _ _ (fun z => hnew (by rw [← z]; exact List.mem_of_getElem? a1))]
        exact z2
      obtain ⟨-, -, -, z4, z5⟩ := id q3.1
      have hadd := c_add ok z5 e143 (by omega) (fun z hz => by
        obtain ⟨j, hj⟩ := List.getElem?_of_mem hz
        have hjl := (List.getElem?_eq_some_iff.mp hj).1
        exact el_wat (wobj j z _ _ hj (List.getElem?_eq_getElem (by omega)) (List.getElem?_eq_getElem (by omega))).2) (el_wat oN3)
      refine bX11_watch_53 (Or.inr ⟨rfl, _, _, e143⟩) hadd ?_
      rintro h4 _ ⟨hh4, -⟩
      have m4 : k_mo a [] (fun q => q = a + 14) 0 h3 h4 := by rw [hh4]; exact mv_gr e143 (by omega) rfl (by rw [w2]; show _ ≤ 40; omega)
      obtain ⟨cap4, e4⟩ := gr_at h3 (a + 14) (WA ++ [q]) WA.length capW
      rw [← hh4] at e4
      have nO : ∀ p ci fs, h3.1 p = some (k_o ci fs) → ¬ (p = a + 14) := fun p ci fs hp z => by rw [z, e143] at hp; cases hp
      have s4 := sE_fr s3 m4 (by simp) (fun i h1 h2 z => by omega) (fun q ci fs hq hc => nO q ci fs hq)
      have co4 := co_mo co3 m4
      obtain ⟨y1, y2, y3, y4, y5, y6⟩ := q3
      have q4 : c_rs a h4 (g_wts M (g_WT M ++ [(s_cd a1 b1 c1, -2147483648)])) (Q ++ [(s_cd a1 b1 c1, kk)]) w PS := by
        refine ⟨TX_fr y1 m4 (by simp) (fun q ci fs hq hc => nO q ci fs hq) (fun i h1 h2 z => by omega), pa_fr y2 m4 (by simp) ⟨by omega, by omega⟩ (fun q fs hq => nO q 8 fs hq), ob_fr y3 m4.1 (by simp) (by omega), cl_fr y4 m4.1 (by simp) ⟨by omega, by omega, by omega⟩, mk_fr y5 m4.1 (by omega), dr_fr y6 m4.1 (by simp) (by omega) (fun q fs hq => nO q 5 fs hq), WA ++ [q], cap4, e4, ⟨?_, ?_, ?_⟩, fun i b x y u1 u2 u3 => ?_⟩
        · show (WA ++ [q]).length = (g_WT M ++ [_]).length
          rw [List.length_append, List.length_append, w2]; rfl
        · show (Q ++ [_]).length = (g_WT M ++ [_]).length
          rw [List.length_append, List.length_append, w3]; rfl
        · rw [List.nodup_append]
          exact ⟨w4, List.pairwise_singleton _ q, fun u hu v hv e => hnew (by rw [List.mem_singleton.mp hv] at e; rw [← e]; exact hu)⟩
        · have u2' : (g_WT M ++ [(s_cd a1 b1 c1, (-2147483648 : Int32))])[i]? = some x := u2
          have old : ∀ p ci fs, h3.1 p = some (k_o ci fs) → h4.1 p = some (k_o ci fs) := fun p ci fs hp => m4.1 _ _ hp (nO p ci fs hp) (fun _ _ _ => List.not_mem_nil)
          by_cases e : i < WA.length
          · rw [List.getElem?_append_left e] at u1
            rw [List.getElem?_append_left (by omega)] at u2' u3
            obtain ⟨z1, z2⟩ := wobj i b x y u1 u2' u3
            exact ⟨z1, old _ _ _ z2⟩
          · have ei : i = WA.length := by
              have := (List.getElem?_eq_some_iff.mp u1).1
              simp at this; omega
            subst ei
            rw [List.getElem?_append_right (by omega), Nat.sub_self] at u1
            rw [w2, List.getElem?_append_right (by omega), Nat.sub_self] at u2'
            rw [w2, ← w3, List.getElem?_append_right (by omega), Nat.sub_self] at u3
            simp at u1 u2' u3
            subst u1 u2' u3
            exact ⟨rfl, old _ _ _ oN3⟩
      have W4 : c_W a B h4 (g_wts M (g_WT M ++ [(s_cd a1 b1 c1, -2147483648)])) (N + 2) w := ⟨_, S2, PS, s4, q4, p, co_le co4 (by omega)⟩
      refine bX11_watch_56 q4.2.2.1 rfl (Or.inr ⟨rfl, _, _, e4⟩) (c_size ok e4) ?_
      rintro _ _ ⟨hh5, rfl⟩
      rw [hh5]
      refine bX11_watch_64 (R_ok W4 ?_)
      rw [hF, List.length_append, List.length_singleton, w2]
      exact congrArg (fun v => (g_wts M (g_WT M ++ [(s_cd a1 b1 c1, -2147483648)]), 0, v)) (nI_sub (a := (g_WT M).length + 1) (b := 1) (by omega)).symm
    · have h20 : (g_WT M).length = 20 := by
        by_cases e : (g_WT M).length < 20
        · exact absurd ((nI_ltI (b := 20) (by omega) (by omega)).mpr e) c
        · omega
      have hF : F_watch M a1 b1 c1 = (M, 2, 0) := by unfold F_watch; rw [if_neg (by rw [hk]; decide), if_pos h20]
      rw [hF]
      exact ⟨W_le (W_sk W) (by omega), rfl⟩
end CBB
